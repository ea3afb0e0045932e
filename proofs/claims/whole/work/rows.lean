section
-- ===== PART A: goes FIRST, ahead of the names: the tables' words, and 'selects' of the private methods out of them =====
/-- a private method of a class that the tables say can be made, by its rows of tables_1 -/
def lw_okq (q : MethodName × Nat) : Prop := (q.1.cls ≠ "java/lang/invoke/MethodHandle" ∧ q.1.cls ≠ "java/lang/invoke/VarHandle") ∧ Cond.instantiable q.1.cls q.2 ∈ tables_1 ∧ Cond.privateMethod q.1 ∈ tables_1 ∧ Cond.instanceMethod q.1 ∈ tables_1
theorem lw_p0 : lw_okq (⟨"GuessedPlace$Teller", "splitTape", "()V"⟩, 10) := ⟨⟨by decide +kernel, by decide +kernel⟩, List.mem_of_getElem? (i := 171) (by decide +kernel), List.mem_of_getElem? (i := 406) (by decide +kernel), List.mem_of_getElem? (i := 407) (by decide +kernel)⟩
theorem lw_p1 : lw_okq (⟨"GuessedPlace$Teller", "split", "(II)I"⟩, 10) := ⟨⟨by decide +kernel, by decide +kernel⟩, List.mem_of_getElem? (i := 171) (by decide +kernel), List.mem_of_getElem? (i := 410) (by decide +kernel), List.mem_of_getElem? (i := 411) (by decide +kernel)⟩
theorem lw_p2 : lw_okq (⟨"GuessedPlace$Teller", "isLetter", "(I)Z"⟩, 10) := ⟨⟨by decide +kernel, by decide +kernel⟩, List.mem_of_getElem? (i := 171) (by decide +kernel), List.mem_of_getElem? (i := 414) (by decide +kernel), List.mem_of_getElem? (i := 415) (by decide +kernel)⟩
theorem lw_p3 : lw_okq (⟨"GuessedPlace$Teller", "splitWord", "(II)I"⟩, 10) := ⟨⟨by decide +kernel, by decide +kernel⟩, List.mem_of_getElem? (i := 171) (by decide +kernel), List.mem_of_getElem? (i := 418) (by decide +kernel), List.mem_of_getElem? (i := 419) (by decide +kernel)⟩
theorem lw_p4 : lw_okq (⟨"GuessedPlace$Teller", "stands", "(Ljava/lang/String;II)Z"⟩, 10) := ⟨⟨by decide +kernel, by decide +kernel⟩, List.mem_of_getElem? (i := 171) (by decide +kernel), List.mem_of_getElem? (i := 432) (by decide +kernel), List.mem_of_getElem? (i := 433) (by decide +kernel)⟩
theorem lw_p5 : lw_okq (⟨"GuessedPlace$Teller", "isDigit", "(I)Z"⟩, 10) := ⟨⟨by decide +kernel, by decide +kernel⟩, List.mem_of_getElem? (i := 171) (by decide +kernel), List.mem_of_getElem? (i := 484) (by decide +kernel), List.mem_of_getElem? (i := 485) (by decide +kernel)⟩
theorem lw_p6 : lw_okq (⟨"GuessedPlace$Teller", "splitNumber", "(II)I"⟩, 10) := ⟨⟨by decide +kernel, by decide +kernel⟩, List.mem_of_getElem? (i := 171) (by decide +kernel), List.mem_of_getElem? (i := 488) (by decide +kernel), List.mem_of_getElem? (i := 489) (by decide +kernel)⟩
theorem lw_p7 : lw_okq (⟨"GuessedPlace$Teller", "fail", "(II)Z"⟩, 10) := ⟨⟨by decide +kernel, by decide +kernel⟩, List.mem_of_getElem? (i := 171) (by decide +kernel), List.mem_of_getElem? (i := 492) (by decide +kernel), List.mem_of_getElem? (i := 493) (by decide +kernel)⟩
theorem lw_p8 : lw_okq (⟨"GuessedPlace$Teller", "take", "(I)Z"⟩, 10) := ⟨⟨by decide +kernel, by decide +kernel⟩, List.mem_of_getElem? (i := 171) (by decide +kernel), List.mem_of_getElem? (i := 496) (by decide +kernel), List.mem_of_getElem? (i := 497) (by decide +kernel)⟩
theorem lw_p9 : lw_okq (⟨"GuessedPlace$Teller", "readStatement", "(I)Z"⟩, 10) := ⟨⟨by decide +kernel, by decide +kernel⟩, List.mem_of_getElem? (i := 171) (by decide +kernel), List.mem_of_getElem? (i := 500) (by decide +kernel), List.mem_of_getElem? (i := 501) (by decide +kernel)⟩
theorem lw_p10 : lw_okq (⟨"GuessedPlace$Teller", "readKey", "(I)Z"⟩, 10) := ⟨⟨by decide +kernel, by decide +kernel⟩, List.mem_of_getElem? (i := 171) (by decide +kernel), List.mem_of_getElem? (i := 504) (by decide +kernel), List.mem_of_getElem? (i := 505) (by decide +kernel)⟩
theorem lw_p11 : lw_okq (⟨"GuessedPlace$Teller", "takeNumber", "(II)Z"⟩, 10) := ⟨⟨by decide +kernel, by decide +kernel⟩, List.mem_of_getElem? (i := 171) (by decide +kernel), List.mem_of_getElem? (i := 510) (by decide +kernel), List.mem_of_getElem? (i := 511) (by decide +kernel)⟩
theorem lw_p12 : lw_okq (⟨"GuessedPlace$Keys", "makeWay", "(II)V"⟩, 3) := ⟨⟨by decide +kernel, by decide +kernel⟩, List.mem_of_getElem? (i := 36) (by decide +kernel), List.mem_of_getElem? (i := 533) (by decide +kernel), List.mem_of_getElem? (i := 534) (by decide +kernel)⟩
theorem lw_p13 : lw_okq (⟨"GuessedPlace$Keys", "closeUp", "(I)V"⟩, 3) := ⟨⟨by decide +kernel, by decide +kernel⟩, List.mem_of_getElem? (i := 36) (by decide +kernel), List.mem_of_getElem? (i := 537) (by decide +kernel), List.mem_of_getElem? (i := 538) (by decide +kernel)⟩
theorem lw_p14 : lw_okq (⟨"GuessedPlace$Teller", "readRun", "(I)Z"⟩, 10) := ⟨⟨by decide +kernel, by decide +kernel⟩, List.mem_of_getElem? (i := 171) (by decide +kernel), List.mem_of_getElem? (i := 541) (by decide +kernel), List.mem_of_getElem? (i := 542) (by decide +kernel)⟩
theorem lw_p15 : lw_okq (⟨"GuessedPlace$Teller", "readDrop", "()Z"⟩, 10) := ⟨⟨by decide +kernel, by decide +kernel⟩, List.mem_of_getElem? (i := 171) (by decide +kernel), List.mem_of_getElem? (i := 551) (by decide +kernel), List.mem_of_getElem? (i := 552) (by decide +kernel)⟩
def lw_privs_1 : List (MethodName × Nat) := [(⟨"GuessedPlace$Teller", "splitTape", "()V"⟩, 10), (⟨"GuessedPlace$Teller", "split", "(II)I"⟩, 10), (⟨"GuessedPlace$Teller", "isLetter", "(I)Z"⟩, 10), (⟨"GuessedPlace$Teller", "splitWord", "(II)I"⟩, 10), (⟨"GuessedPlace$Teller", "stands", "(Ljava/lang/String;II)Z"⟩, 10), (⟨"GuessedPlace$Teller", "isDigit", "(I)Z"⟩, 10), (⟨"GuessedPlace$Teller", "splitNumber", "(II)I"⟩, 10), (⟨"GuessedPlace$Teller", "fail", "(II)Z"⟩, 10), (⟨"GuessedPlace$Teller", "take", "(I)Z"⟩, 10), (⟨"GuessedPlace$Teller", "readStatement", "(I)Z"⟩, 10), (⟨"GuessedPlace$Teller", "readKey", "(I)Z"⟩, 10), (⟨"GuessedPlace$Teller", "takeNumber", "(II)Z"⟩, 10), (⟨"GuessedPlace$Keys", "makeWay", "(II)V"⟩, 3), (⟨"GuessedPlace$Keys", "closeUp", "(I)V"⟩, 3), (⟨"GuessedPlace$Teller", "readRun", "(I)Z"⟩, 10), (⟨"GuessedPlace$Teller", "readDrop", "()Z"⟩, 10)]
theorem lw_r1 : ∀ q ∈ lw_privs_1, lw_okq q := List.forall_mem_cons.mpr ⟨lw_p0, List.forall_mem_cons.mpr ⟨lw_p1, List.forall_mem_cons.mpr ⟨lw_p2, List.forall_mem_cons.mpr ⟨lw_p3, List.forall_mem_cons.mpr ⟨lw_p4, List.forall_mem_cons.mpr ⟨lw_p5, List.forall_mem_cons.mpr ⟨lw_p6, List.forall_mem_cons.mpr ⟨lw_p7, List.forall_mem_cons.mpr ⟨lw_p8, List.forall_mem_cons.mpr ⟨lw_p9, List.forall_mem_cons.mpr ⟨lw_p10, List.forall_mem_cons.mpr ⟨lw_p11, List.forall_mem_cons.mpr ⟨lw_p12, List.forall_mem_cons.mpr ⟨lw_p13, List.forall_mem_cons.mpr ⟨lw_p14, List.forall_mem_cons.mpr ⟨lw_p15, fun _ h => absurd h List.not_mem_nil⟩⟩⟩⟩⟩⟩⟩⟩⟩⟩⟩⟩⟩⟩⟩⟩
theorem lw_p16 : lw_okq (⟨"GuessedPlace$Teller", "readSetting", "(I)Z"⟩, 10) := ⟨⟨by decide +kernel, by decide +kernel⟩, List.mem_of_getElem? (i := 171) (by decide +kernel), List.mem_of_getElem? (i := 560) (by decide +kernel), List.mem_of_getElem? (i := 561) (by decide +kernel)⟩
theorem lw_p17 : lw_okq (⟨"GuessedPlace", "buildAll", "()V"⟩, 8) := ⟨⟨by decide +kernel, by decide +kernel⟩, List.mem_of_getElem? (i := 22) (by decide +kernel), List.mem_of_getElem? (i := 574) (by decide +kernel), List.mem_of_getElem? (i := 575) (by decide +kernel)⟩
theorem lw_p18 : lw_okq (⟨"GuessedPlace$Level", "setLine", "(IIJJ)V"⟩, 8) := ⟨⟨by decide +kernel, by decide +kernel⟩, List.mem_of_getElem? (i := 271) (by decide +kernel), List.mem_of_getElem? (i := 620) (by decide +kernel), List.mem_of_getElem? (i := 621) (by decide +kernel)⟩
theorem lw_p19 : lw_okq (⟨"GuessedPlace", "isPiece", "(II)Z"⟩, 8) := ⟨⟨by decide +kernel, by decide +kernel⟩, List.mem_of_getElem? (i := 22) (by decide +kernel), List.mem_of_getElem? (i := 717) (by decide +kernel), List.mem_of_getElem? (i := 718) (by decide +kernel)⟩
theorem lw_p20 : lw_okq (⟨"GuessedPlace$Cover", "halve", "([IIII)I"⟩, 4) := ⟨⟨by decide +kernel, by decide +kernel⟩, List.mem_of_getElem? (i := 216) (by decide +kernel), List.mem_of_getElem? (i := 749) (by decide +kernel), List.mem_of_getElem? (i := 750) (by decide +kernel)⟩
theorem lw_p21 : lw_okq (⟨"GuessedPlace", "treeHeight", "()I"⟩, 8) := ⟨⟨by decide +kernel, by decide +kernel⟩, List.mem_of_getElem? (i := 22) (by decide +kernel), List.mem_of_getElem? (i := 770) (by decide +kernel), List.mem_of_getElem? (i := 771) (by decide +kernel)⟩
theorem lw_p22 : lw_okq (⟨"GuessedPlace$Gaps", "push", "(III)I"⟩, 1) := ⟨⟨by decide +kernel, by decide +kernel⟩, List.mem_of_getElem? (i := 94) (by decide +kernel), List.mem_of_getElem? (i := 812) (by decide +kernel), List.mem_of_getElem? (i := 813) (by decide +kernel)⟩
theorem lw_p23 : lw_okq (⟨"GuessedPlace", "piecesWith", "(I)I"⟩, 8) := ⟨⟨by decide +kernel, by decide +kernel⟩, List.mem_of_getElem? (i := 22) (by decide +kernel), List.mem_of_getElem? (i := 825) (by decide +kernel), List.mem_of_getElem? (i := 826) (by decide +kernel)⟩
theorem lw_p24 : lw_okq (⟨"GuessedPlace$Sieve", "isInSpan", "(I)Z"⟩, 5) := ⟨⟨by decide +kernel, by decide +kernel⟩, List.mem_of_getElem? (i := 330) (by decide +kernel), List.mem_of_getElem? (i := 840) (by decide +kernel), List.mem_of_getElem? (i := 841) (by decide +kernel)⟩
theorem lw_p25 : lw_okq (⟨"GuessedPlace$Sieve", "isNearNext", "(I)Z"⟩, 5) := ⟨⟨by decide +kernel, by decide +kernel⟩, List.mem_of_getElem? (i := 330) (by decide +kernel), List.mem_of_getElem? (i := 844) (by decide +kernel), List.mem_of_getElem? (i := 845) (by decide +kernel)⟩
theorem lw_p26 : lw_okq (⟨"GuessedPlace$Sieve", "mark", "(I)V"⟩, 5) := ⟨⟨by decide +kernel, by decide +kernel⟩, List.mem_of_getElem? (i := 330) (by decide +kernel), List.mem_of_getElem? (i := 848) (by decide +kernel), List.mem_of_getElem? (i := 849) (by decide +kernel)⟩
theorem lw_p27 : lw_okq (⟨"GuessedPlace$Sieve", "hash", "(II)I"⟩, 5) := ⟨⟨by decide +kernel, by decide +kernel⟩, List.mem_of_getElem? (i := 330) (by decide +kernel), List.mem_of_getElem? (i := 852) (by decide +kernel), List.mem_of_getElem? (i := 853) (by decide +kernel)⟩
theorem lw_p28 : lw_okq (⟨"GuessedPlaceModel", "placeIn", "(III)I"⟩, 33) := ⟨⟨by decide +kernel, by decide +kernel⟩, List.mem_of_getElem? (i := 933) (by decide +kernel), List.mem_of_getElem? (i := 1047) (by decide +kernel), List.mem_of_getElem? (i := 1048) (by decide +kernel)⟩
theorem lw_p29 : lw_okq (⟨"GuessedPlaceModel", "isAt", "(IIII)Z"⟩, 33) := ⟨⟨by decide +kernel, by decide +kernel⟩, List.mem_of_getElem? (i := 933) (by decide +kernel), List.mem_of_getElem? (i := 1051) (by decide +kernel), List.mem_of_getElem? (i := 1052) (by decide +kernel)⟩
theorem lw_p30 : lw_okq (⟨"GuessedPlaceModel", "forgets", "()V"⟩, 33) := ⟨⟨by decide +kernel, by decide +kernel⟩, List.mem_of_getElem? (i := 933) (by decide +kernel), List.mem_of_getElem? (i := 1059) (by decide +kernel), List.mem_of_getElem? (i := 1060) (by decide +kernel)⟩
theorem lw_p31 : lw_okq (⟨"GuessedPlaceModel", "builds", "()I"⟩, 33) := ⟨⟨by decide +kernel, by decide +kernel⟩, List.mem_of_getElem? (i := 933) (by decide +kernel), List.mem_of_getElem? (i := 1063) (by decide +kernel), List.mem_of_getElem? (i := 1064) (by decide +kernel)⟩
def lw_privs_2 : List (MethodName × Nat) := [(⟨"GuessedPlace$Teller", "readSetting", "(I)Z"⟩, 10), (⟨"GuessedPlace", "buildAll", "()V"⟩, 8), (⟨"GuessedPlace$Level", "setLine", "(IIJJ)V"⟩, 8), (⟨"GuessedPlace", "isPiece", "(II)Z"⟩, 8), (⟨"GuessedPlace$Cover", "halve", "([IIII)I"⟩, 4), (⟨"GuessedPlace", "treeHeight", "()I"⟩, 8), (⟨"GuessedPlace$Gaps", "push", "(III)I"⟩, 1), (⟨"GuessedPlace", "piecesWith", "(I)I"⟩, 8), (⟨"GuessedPlace$Sieve", "isInSpan", "(I)Z"⟩, 5), (⟨"GuessedPlace$Sieve", "isNearNext", "(I)Z"⟩, 5), (⟨"GuessedPlace$Sieve", "mark", "(I)V"⟩, 5), (⟨"GuessedPlace$Sieve", "hash", "(II)I"⟩, 5), (⟨"GuessedPlaceModel", "placeIn", "(III)I"⟩, 33), (⟨"GuessedPlaceModel", "isAt", "(IIII)Z"⟩, 33), (⟨"GuessedPlaceModel", "forgets", "()V"⟩, 33), (⟨"GuessedPlaceModel", "builds", "()I"⟩, 33)]
theorem lw_r2 : ∀ q ∈ lw_privs_2, lw_okq q := List.forall_mem_cons.mpr ⟨lw_p16, List.forall_mem_cons.mpr ⟨lw_p17, List.forall_mem_cons.mpr ⟨lw_p18, List.forall_mem_cons.mpr ⟨lw_p19, List.forall_mem_cons.mpr ⟨lw_p20, List.forall_mem_cons.mpr ⟨lw_p21, List.forall_mem_cons.mpr ⟨lw_p22, List.forall_mem_cons.mpr ⟨lw_p23, List.forall_mem_cons.mpr ⟨lw_p24, List.forall_mem_cons.mpr ⟨lw_p25, List.forall_mem_cons.mpr ⟨lw_p26, List.forall_mem_cons.mpr ⟨lw_p27, List.forall_mem_cons.mpr ⟨lw_p28, List.forall_mem_cons.mpr ⟨lw_p29, List.forall_mem_cons.mpr ⟨lw_p30, List.forall_mem_cons.mpr ⟨lw_p31, fun _ h => absurd h List.not_mem_nil⟩⟩⟩⟩⟩⟩⟩⟩⟩⟩⟩⟩⟩⟩⟩⟩
theorem lw_p32 : lw_okq (⟨"GuessedPlaceModel", "laysAll", "()I"⟩, 33) := ⟨⟨by decide +kernel, by decide +kernel⟩, List.mem_of_getElem? (i := 933) (by decide +kernel), List.mem_of_getElem? (i := 1067) (by decide +kernel), List.mem_of_getElem? (i := 1068) (by decide +kernel)⟩
theorem lw_p33 : lw_okq (⟨"GuessedPlaceModel", "keys", "()I"⟩, 33) := ⟨⟨by decide +kernel, by decide +kernel⟩, List.mem_of_getElem? (i := 933) (by decide +kernel), List.mem_of_getElem? (i := 1090) (by decide +kernel), List.mem_of_getElem? (i := 1091) (by decide +kernel)⟩
theorem lw_p34 : lw_okq (⟨"GuessedPlaceModel", "gone", "()I"⟩, 33) := ⟨⟨by decide +kernel, by decide +kernel⟩, List.mem_of_getElem? (i := 933) (by decide +kernel), List.mem_of_getElem? (i := 1094) (by decide +kernel), List.mem_of_getElem? (i := 1095) (by decide +kernel)⟩
theorem lw_p35 : lw_okq (⟨"GuessedPlaceModel", "counts", "(II)V"⟩, 33) := ⟨⟨by decide +kernel, by decide +kernel⟩, List.mem_of_getElem? (i := 933) (by decide +kernel), List.mem_of_getElem? (i := 1098) (by decide +kernel), List.mem_of_getElem? (i := 1099) (by decide +kernel)⟩
theorem lw_p36 : lw_okq (⟨"GuessedPlaceModel", "acts", "(II)V"⟩, 33) := ⟨⟨by decide +kernel, by decide +kernel⟩, List.mem_of_getElem? (i := 933) (by decide +kernel), List.mem_of_getElem? (i := 1102) (by decide +kernel), List.mem_of_getElem? (i := 1103) (by decide +kernel)⟩
theorem lw_p37 : lw_okq (⟨"GuessedPlaceModel", "pushes", "(IIII)V"⟩, 33) := ⟨⟨by decide +kernel, by decide +kernel⟩, List.mem_of_getElem? (i := 933) (by decide +kernel), List.mem_of_getElem? (i := 1106) (by decide +kernel), List.mem_of_getElem? (i := 1107) (by decide +kernel)⟩
theorem lw_p38 : lw_okq (⟨"GuessedPlaceModel", "next0", "()V"⟩, 33) := ⟨⟨by decide +kernel, by decide +kernel⟩, List.mem_of_getElem? (i := 933) (by decide +kernel), List.mem_of_getElem? (i := 1144) (by decide +kernel), List.mem_of_getElem? (i := 1145) (by decide +kernel)⟩
theorem lw_p39 : lw_okq (⟨"GuessedPlaceModel", "see", "(I)I"⟩, 33) := ⟨⟨by decide +kernel, by decide +kernel⟩, List.mem_of_getElem? (i := 933) (by decide +kernel), List.mem_of_getElem? (i := 1148) (by decide +kernel), List.mem_of_getElem? (i := 1149) (by decide +kernel)⟩
theorem lw_p40 : lw_okq (⟨"GuessedPlaceModel", "word", "()I"⟩, 33) := ⟨⟨by decide +kernel, by decide +kernel⟩, List.mem_of_getElem? (i := 933) (by decide +kernel), List.mem_of_getElem? (i := 1155) (by decide +kernel), List.mem_of_getElem? (i := 1156) (by decide +kernel)⟩
theorem lw_p41 : lw_okq (⟨"GuessedPlaceModel", "is", "(Ljava/lang/String;)Z"⟩, 33) := ⟨⟨by decide +kernel, by decide +kernel⟩, List.mem_of_getElem? (i := 933) (by decide +kernel), List.mem_of_getElem? (i := 1160) (by decide +kernel), List.mem_of_getElem? (i := 1161) (by decide +kernel)⟩
theorem lw_p42 : lw_okq (⟨"GuessedPlaceModel", "statement", "(I)Z"⟩, 33) := ⟨⟨by decide +kernel, by decide +kernel⟩, List.mem_of_getElem? (i := 933) (by decide +kernel), List.mem_of_getElem? (i := 1174) (by decide +kernel), List.mem_of_getElem? (i := 1175) (by decide +kernel)⟩
theorem lw_p43 : lw_okq (⟨"GuessedPlaceModel", "bad", "(II)Z"⟩, 33) := ⟨⟨by decide +kernel, by decide +kernel⟩, List.mem_of_getElem? (i := 933) (by decide +kernel), List.mem_of_getElem? (i := 1178) (by decide +kernel), List.mem_of_getElem? (i := 1179) (by decide +kernel)⟩
theorem lw_p44 : lw_okq (⟨"GuessedPlaceModel", "aKey", "(I)Z"⟩, 33) := ⟨⟨by decide +kernel, by decide +kernel⟩, List.mem_of_getElem? (i := 933) (by decide +kernel), List.mem_of_getElem? (i := 1182) (by decide +kernel), List.mem_of_getElem? (i := 1183) (by decide +kernel)⟩
theorem lw_p45 : lw_okq (⟨"GuessedPlaceModel", "number", "(II)Z"⟩, 33) := ⟨⟨by decide +kernel, by decide +kernel⟩, List.mem_of_getElem? (i := 933) (by decide +kernel), List.mem_of_getElem? (i := 1186) (by decide +kernel), List.mem_of_getElem? (i := 1187) (by decide +kernel)⟩
theorem lw_p46 : lw_okq (⟨"GuessedPlaceModel", "comes", "(II)Z"⟩, 33) := ⟨⟨by decide +kernel, by decide +kernel⟩, List.mem_of_getElem? (i := 933) (by decide +kernel), List.mem_of_getElem? (i := 1190) (by decide +kernel), List.mem_of_getElem? (i := 1191) (by decide +kernel)⟩
theorem lw_p47 : lw_okq (⟨"GuessedPlaceModel", "aRun", "(I)Z"⟩, 33) := ⟨⟨by decide +kernel, by decide +kernel⟩, List.mem_of_getElem? (i := 933) (by decide +kernel), List.mem_of_getElem? (i := 1194) (by decide +kernel), List.mem_of_getElem? (i := 1195) (by decide +kernel)⟩
def lw_privs_3 : List (MethodName × Nat) := [(⟨"GuessedPlaceModel", "laysAll", "()I"⟩, 33), (⟨"GuessedPlaceModel", "keys", "()I"⟩, 33), (⟨"GuessedPlaceModel", "gone", "()I"⟩, 33), (⟨"GuessedPlaceModel", "counts", "(II)V"⟩, 33), (⟨"GuessedPlaceModel", "acts", "(II)V"⟩, 33), (⟨"GuessedPlaceModel", "pushes", "(IIII)V"⟩, 33), (⟨"GuessedPlaceModel", "next0", "()V"⟩, 33), (⟨"GuessedPlaceModel", "see", "(I)I"⟩, 33), (⟨"GuessedPlaceModel", "word", "()I"⟩, 33), (⟨"GuessedPlaceModel", "is", "(Ljava/lang/String;)Z"⟩, 33), (⟨"GuessedPlaceModel", "statement", "(I)Z"⟩, 33), (⟨"GuessedPlaceModel", "bad", "(II)Z"⟩, 33), (⟨"GuessedPlaceModel", "aKey", "(I)Z"⟩, 33), (⟨"GuessedPlaceModel", "number", "(II)Z"⟩, 33), (⟨"GuessedPlaceModel", "comes", "(II)Z"⟩, 33), (⟨"GuessedPlaceModel", "aRun", "(I)Z"⟩, 33)]
theorem lw_r3 : ∀ q ∈ lw_privs_3, lw_okq q := List.forall_mem_cons.mpr ⟨lw_p32, List.forall_mem_cons.mpr ⟨lw_p33, List.forall_mem_cons.mpr ⟨lw_p34, List.forall_mem_cons.mpr ⟨lw_p35, List.forall_mem_cons.mpr ⟨lw_p36, List.forall_mem_cons.mpr ⟨lw_p37, List.forall_mem_cons.mpr ⟨lw_p38, List.forall_mem_cons.mpr ⟨lw_p39, List.forall_mem_cons.mpr ⟨lw_p40, List.forall_mem_cons.mpr ⟨lw_p41, List.forall_mem_cons.mpr ⟨lw_p42, List.forall_mem_cons.mpr ⟨lw_p43, List.forall_mem_cons.mpr ⟨lw_p44, List.forall_mem_cons.mpr ⟨lw_p45, List.forall_mem_cons.mpr ⟨lw_p46, List.forall_mem_cons.mpr ⟨lw_p47, fun _ h => absurd h List.not_mem_nil⟩⟩⟩⟩⟩⟩⟩⟩⟩⟩⟩⟩⟩⟩⟩⟩
theorem lw_p48 : lw_okq (⟨"GuessedPlaceModel", "laysRow", "(I)V"⟩, 33) := ⟨⟨by decide +kernel, by decide +kernel⟩, List.mem_of_getElem? (i := 933) (by decide +kernel), List.mem_of_getElem? (i := 1207) (by decide +kernel), List.mem_of_getElem? (i := 1208) (by decide +kernel)⟩
theorem lw_p49 : lw_okq (⟨"GuessedPlaceModel", "laysLevels", "(II)V"⟩, 33) := ⟨⟨by decide +kernel, by decide +kernel⟩, List.mem_of_getElem? (i := 933) (by decide +kernel), List.mem_of_getElem? (i := 1211) (by decide +kernel), List.mem_of_getElem? (i := 1212) (by decide +kernel)⟩
theorem lw_p50 : lw_okq (⟨"GuessedPlaceModel", "covers", "(I)V"⟩, 33) := ⟨⟨by decide +kernel, by decide +kernel⟩, List.mem_of_getElem? (i := 933) (by decide +kernel), List.mem_of_getElem? (i := 1215) (by decide +kernel), List.mem_of_getElem? (i := 1216) (by decide +kernel)⟩
theorem lw_p51 : lw_okq (⟨"GuessedPlaceModel", "comesTo", "(III)Z"⟩, 33) := ⟨⟨by decide +kernel, by decide +kernel⟩, List.mem_of_getElem? (i := 933) (by decide +kernel), List.mem_of_getElem? (i := 1219) (by decide +kernel), List.mem_of_getElem? (i := 1220) (by decide +kernel)⟩
theorem lw_p52 : lw_okq (⟨"GuessedPlaceModel", "isPiece", "(II)Z"⟩, 33) := ⟨⟨by decide +kernel, by decide +kernel⟩, List.mem_of_getElem? (i := 933) (by decide +kernel), List.mem_of_getElem? (i := 1227) (by decide +kernel), List.mem_of_getElem? (i := 1228) (by decide +kernel)⟩
theorem lw_p53 : lw_okq (⟨"GuessedPlaceModel", "guessOf", "(III)I"⟩, 33) := ⟨⟨by decide +kernel, by decide +kernel⟩, List.mem_of_getElem? (i := 933) (by decide +kernel), List.mem_of_getElem? (i := 1235) (by decide +kernel), List.mem_of_getElem? (i := 1236) (by decide +kernel)⟩
theorem lw_p54 : lw_okq (⟨"GuessedPlaceModel", "seeks", "(I)I"⟩, 33) := ⟨⟨by decide +kernel, by decide +kernel⟩, List.mem_of_getElem? (i := 933) (by decide +kernel), List.mem_of_getElem? (i := 1247) (by decide +kernel), List.mem_of_getElem? (i := 1248) (by decide +kernel)⟩
theorem lw_p55 : lw_okq (⟨"GuessedPlaceModel", "halves", "(IIII)I"⟩, 33) := ⟨⟨by decide +kernel, by decide +kernel⟩, List.mem_of_getElem? (i := 933) (by decide +kernel), List.mem_of_getElem? (i := 1251) (by decide +kernel), List.mem_of_getElem? (i := 1252) (by decide +kernel)⟩
theorem lw_p56 : lw_okq (⟨"GuessedPlaceModel", "pieceOf", "(II)I"⟩, 33) := ⟨⟨by decide +kernel, by decide +kernel⟩, List.mem_of_getElem? (i := 933) (by decide +kernel), List.mem_of_getElem? (i := 1259) (by decide +kernel), List.mem_of_getElem? (i := 1260) (by decide +kernel)⟩
theorem lw_p57 : lw_okq (⟨"GuessedPlaceModel", "fills", "(II)V"⟩, 33) := ⟨⟨by decide +kernel, by decide +kernel⟩, List.mem_of_getElem? (i := 933) (by decide +kernel), List.mem_of_getElem? (i := 1275) (by decide +kernel), List.mem_of_getElem? (i := 1276) (by decide +kernel)⟩
theorem lw_p58 : lw_okq (⟨"GuessedPlaceModel", "isFull", "(I)Z"⟩, 33) := ⟨⟨by decide +kernel, by decide +kernel⟩, List.mem_of_getElem? (i := 933) (by decide +kernel), List.mem_of_getElem? (i := 1283) (by decide +kernel), List.mem_of_getElem? (i := 1284) (by decide +kernel)⟩
theorem lw_p59 : lw_okq (⟨"GuessedPlaceModel", "piecesWith", "(IIZ)I"⟩, 33) := ⟨⟨by decide +kernel, by decide +kernel⟩, List.mem_of_getElem? (i := 933) (by decide +kernel), List.mem_of_getElem? (i := 1295) (by decide +kernel), List.mem_of_getElem? (i := 1296) (by decide +kernel)⟩
theorem lw_p60 : lw_okq (⟨"GuessedPlaceModel", "setsBits", "(IZ)V"⟩, 33) := ⟨⟨by decide +kernel, by decide +kernel⟩, List.mem_of_getElem? (i := 933) (by decide +kernel), List.mem_of_getElem? (i := 1303) (by decide +kernel), List.mem_of_getElem? (i := 1304) (by decide +kernel)⟩
theorem lw_p61 : lw_okq (⟨"GuessedPlaceModel", "hash", "(II)I"⟩, 33) := ⟨⟨by decide +kernel, by decide +kernel⟩, List.mem_of_getElem? (i := 933) (by decide +kernel), List.mem_of_getElem? (i := 1307) (by decide +kernel), List.mem_of_getElem? (i := 1308) (by decide +kernel)⟩
theorem lw_p62 : lw_okq (⟨"GuessedPlaceModel", "isPassed", "(IIZ)Z"⟩, 33) := ⟨⟨by decide +kernel, by decide +kernel⟩, List.mem_of_getElem? (i := 933) (by decide +kernel), List.mem_of_getElem? (i := 1315) (by decide +kernel), List.mem_of_getElem? (i := 1316) (by decide +kernel)⟩
theorem lw_p63 : lw_okq (⟨"GuessedPlaceModel", "read", "(II)I"⟩, 33) := ⟨⟨by decide +kernel, by decide +kernel⟩, List.mem_of_getElem? (i := 933) (by decide +kernel), List.mem_of_getElem? (i := 1336) (by decide +kernel), List.mem_of_getElem? (i := 1337) (by decide +kernel)⟩
def lw_privs_4 : List (MethodName × Nat) := [(⟨"GuessedPlaceModel", "laysRow", "(I)V"⟩, 33), (⟨"GuessedPlaceModel", "laysLevels", "(II)V"⟩, 33), (⟨"GuessedPlaceModel", "covers", "(I)V"⟩, 33), (⟨"GuessedPlaceModel", "comesTo", "(III)Z"⟩, 33), (⟨"GuessedPlaceModel", "isPiece", "(II)Z"⟩, 33), (⟨"GuessedPlaceModel", "guessOf", "(III)I"⟩, 33), (⟨"GuessedPlaceModel", "seeks", "(I)I"⟩, 33), (⟨"GuessedPlaceModel", "halves", "(IIII)I"⟩, 33), (⟨"GuessedPlaceModel", "pieceOf", "(II)I"⟩, 33), (⟨"GuessedPlaceModel", "fills", "(II)V"⟩, 33), (⟨"GuessedPlaceModel", "isFull", "(I)Z"⟩, 33), (⟨"GuessedPlaceModel", "piecesWith", "(IIZ)I"⟩, 33), (⟨"GuessedPlaceModel", "setsBits", "(IZ)V"⟩, 33), (⟨"GuessedPlaceModel", "hash", "(II)I"⟩, 33), (⟨"GuessedPlaceModel", "isPassed", "(IIZ)Z"⟩, 33), (⟨"GuessedPlaceModel", "read", "(II)I"⟩, 33)]
theorem lw_r4 : ∀ q ∈ lw_privs_4, lw_okq q := List.forall_mem_cons.mpr ⟨lw_p48, List.forall_mem_cons.mpr ⟨lw_p49, List.forall_mem_cons.mpr ⟨lw_p50, List.forall_mem_cons.mpr ⟨lw_p51, List.forall_mem_cons.mpr ⟨lw_p52, List.forall_mem_cons.mpr ⟨lw_p53, List.forall_mem_cons.mpr ⟨lw_p54, List.forall_mem_cons.mpr ⟨lw_p55, List.forall_mem_cons.mpr ⟨lw_p56, List.forall_mem_cons.mpr ⟨lw_p57, List.forall_mem_cons.mpr ⟨lw_p58, List.forall_mem_cons.mpr ⟨lw_p59, List.forall_mem_cons.mpr ⟨lw_p60, List.forall_mem_cons.mpr ⟨lw_p61, List.forall_mem_cons.mpr ⟨lw_p62, List.forall_mem_cons.mpr ⟨lw_p63, fun _ h => absurd h List.not_mem_nil⟩⟩⟩⟩⟩⟩⟩⟩⟩⟩⟩⟩⟩⟩⟩⟩
def lw_privs : List (MethodName × Nat) := lw_privs_1 ++ (lw_privs_2 ++ (lw_privs_3 ++ (lw_privs_4)))
def lw_tbl : List Cond := k2_sels lw_privs ++ tables_1
theorem lw_privs_ok : ∀ q ∈ lw_privs, lw_okq q := by
  show ∀ q ∈ lw_privs_1 ++ (lw_privs_2 ++ (lw_privs_3 ++ (lw_privs_4))), lw_okq q
  exact List.forall_mem_append.mpr ⟨lw_r1, List.forall_mem_append.mpr ⟨lw_r2, List.forall_mem_append.mpr ⟨lw_r3, lw_r4⟩⟩⟩

def RX0 : String := "GuessedPlace$Acts"
def TX0 : u_T := fun k => match k with
  | 0 => ("GuessedPlace$Acts", "keys", "[I", true)
  | 1 => ("GuessedPlace$Acts", "changes", "[I", true)
  | 2 => ("GuessedPlace$Acts", "done", "I", false)
  | _ => ("GuessedPlace$Acts", "undone", "I", false)
def tyX0 : Nat → FieldType := fun k => match k with
  | 0 => .array .int
  | 1 => .array .int
  | 2 => .int
  | _ => .int
abbrev wsX00 : List Cond := u_ws RX0 TX0 4
theorem nmX0 : ∀ a, a < 4 → ∀ b, b < 4 → a ≠ b → (TX0 a).2.1 ≠ (TX0 b).2.1 := by decide +kernel
theorem tyX0_ok : ∀ k, k < 4 → parseFieldDescriptor (TX0 k).2.2.1 = some (tyX0 k) := by decide +kernel
abbrev cX0_init : ByteArray := prog_2_method_1_code
def yX0_init : MethodName := ⟨RX0, "<init>", "()V"⟩
abbrev cX0_copyFrom : ByteArray := prog_2_method_2_code
def yX0_copyFrom : MethodName := ⟨RX0, "copyFrom", "(LGuessedPlace$Acts;)V"⟩
abbrev cX0_forget : ByteArray := prog_2_method_3_code
def yX0_forget : MethodName := ⟨RX0, "forget", "()V"⟩
abbrev cX0_note : ByteArray := prog_2_method_4_code
def yX0_note : MethodName := ⟨RX0, "note", "(II)V"⟩
abbrev cX0_step : ByteArray := prog_2_method_5_code
def yX0_step : MethodName := ⟨RX0, "step", "(Z)I"⟩
def RX1 : String := "GuessedPlace$Cover"
def TX1 : u_T := fun k => match k with
  | 0 => ("GuessedPlace$Cover", "levels", "[LGuessedPlace$Level;", true)
  | 1 => ("GuessedPlace$Cover", "fit", "LGuessedPlace$Fit;", true)
  | 2 => ("GuessedPlace$Cover", "height", "I", false)
  | _ => ("GuessedPlace$Cover", "compared", "I", false)
def tyX1 : Nat → FieldType := fun k => match k with
  | 0 => .array (.object "GuessedPlace$Level")
  | 1 => .object "GuessedPlace$Fit"
  | 2 => .int
  | _ => .int
abbrev wsX10 : List Cond := u_ws RX1 TX1 4
theorem nmX1 : ∀ a, a < 4 → ∀ b, b < 4 → a ≠ b → (TX1 a).2.1 ≠ (TX1 b).2.1 := by decide +kernel
theorem tyX1_ok : ∀ k, k < 4 → parseFieldDescriptor (TX1 k).2.2.1 = some (tyX1 k) := by decide +kernel
abbrev cX1_init : ByteArray := prog_3_method_1_code
def yX1_init : MethodName := ⟨RX1, "<init>", "()V"⟩
abbrev cX1_over : ByteArray := prog_3_method_2_code
def yX1_over : MethodName := ⟨RX1, "over", "([IIII)V"⟩
abbrev cX1_find : ByteArray := prog_3_method_3_code
def yX1_find : MethodName := ⟨RX1, "find", "(I)I"⟩
abbrev cX1_findPlainly : ByteArray := prog_3_method_4_code
def yX1_findPlainly : MethodName := ⟨RX1, "findPlainly", "(I)I"⟩
abbrev cX1_halve : ByteArray := prog_3_method_5_code
def yX1_halve : MethodName := ⟨RX1, "halve", "([IIII)I"⟩
abbrev cX1_comparedOfAll : ByteArray := prog_3_method_6_code
def yX1_comparedOfAll : MethodName := ⟨RX1, "comparedOfAll", "()I"⟩
abbrev cX1_piecesOfAll : ByteArray := prog_3_method_7_code
def yX1_piecesOfAll : MethodName := ⟨RX1, "piecesOfAll", "()I"⟩
abbrev cX1_pagesOfAll : ByteArray := prog_3_method_8_code
def yX1_pagesOfAll : MethodName := ⟨RX1, "pagesOfAll", "(I)I"⟩
def RX2 : String := "GuessedPlace$Fit"
def TX2 : u_T := fun k => match k with
  | 0 => ("GuessedPlace$Fit", "low", "LGuessedPlace$Side;", true)
  | 1 => ("GuessedPlace$Fit", "high", "LGuessedPlace$Side;", true)
  | 2 => ("GuessedPlace$Fit", "p", "J", false)
  | _ => ("GuessedPlace$Fit", "q", "J", false)
def tyX2 : Nat → FieldType := fun k => match k with
  | 0 => .object "GuessedPlace$Side"
  | 1 => .object "GuessedPlace$Side"
  | 2 => .long
  | _ => .long
abbrev wsX20 : List Cond := u_ws RX2 TX2 4
theorem nmX2 : ∀ a, a < 4 → ∀ b, b < 4 → a ≠ b → (TX2 a).2.1 ≠ (TX2 b).2.1 := by decide +kernel
theorem tyX2_ok : ∀ k, k < 4 → parseFieldDescriptor (TX2 k).2.2.1 = some (tyX2 k) := by decide +kernel
abbrev cX2_init : ByteArray := prog_4_method_1_code
def yX2_init : MethodName := ⟨RX2, "<init>", "()V"⟩
abbrev cX2_reach : ByteArray := prog_4_method_2_code
def yX2_reach : MethodName := ⟨RX2, "reach", "([IIII)I"⟩
def RX3 : String := "GuessedPlace$Gaps"
def TX3 : u_T := fun k => match k with
  | _ => ("GuessedPlace$Gaps", "cells", "[I", true)
def tyX3 : Nat → FieldType := fun k => match k with
  | _ => .array .int
abbrev wsX30 : List Cond := u_ws RX3 TX3 1
theorem nmX3 : ∀ a, a < 1 → ∀ b, b < 1 → a ≠ b → (TX3 a).2.1 ≠ (TX3 b).2.1 := by decide +kernel
theorem tyX3_ok : ∀ k, k < 1 → parseFieldDescriptor (TX3 k).2.2.1 = some (tyX3 k) := by decide +kernel
abbrev cX3_init : ByteArray := prog_5_method_1_code
def yX3_init : MethodName := ⟨RX3, "<init>", "()V"⟩
abbrev cX3_fillEvenly : ByteArray := prog_5_method_2_code
def yX3_fillEvenly : MethodName := ⟨RX3, "fillEvenly", "(LGuessedPlace$Keys;)I"⟩
abbrev cX3_squeezeIn : ByteArray := prog_5_method_3_code
def yX3_squeezeIn : MethodName := ⟨RX3, "squeezeIn", "(I)I"⟩
abbrev cX3_push : ByteArray := prog_5_method_4_code
def yX3_push : MethodName := ⟨RX3, "push", "(III)I"⟩
def RX4 : String := "GuessedPlace$Keys"
def TX4 : u_T := fun k => match k with
  | 0 => ("GuessedPlace$Keys", "keys", "[I", true)
  | 1 => ("GuessedPlace$Keys", "counts", "[I", true)
  | _ => ("GuessedPlace$Keys", "size", "I", false)
def tyX4 : Nat → FieldType := fun k => match k with
  | 0 => .array .int
  | 1 => .array .int
  | _ => .int
abbrev wsX40 : List Cond := u_ws RX4 TX4 3
theorem nmX4 : ∀ a, a < 3 → ∀ b, b < 3 → a ≠ b → (TX4 a).2.1 ≠ (TX4 b).2.1 := by decide +kernel
theorem tyX4_ok : ∀ k, k < 3 → parseFieldDescriptor (TX4 k).2.2.1 = some (tyX4 k) := by decide +kernel
abbrev cX4_init : ByteArray := prog_6_method_1_code
def yX4_init : MethodName := ⟨RX4, "<init>", "()V"⟩
abbrev cX4_copyFrom : ByteArray := prog_6_method_2_code
def yX4_copyFrom : MethodName := ⟨RX4, "copyFrom", "(LGuessedPlace$Keys;)V"⟩
abbrev cX4_below : ByteArray := prog_6_method_3_code
def yX4_below : MethodName := ⟨RX4, "below", "(I)I"⟩
abbrev cX4_countOf : ByteArray := prog_6_method_4_code
def yX4_countOf : MethodName := ⟨RX4, "countOf", "(I)I"⟩
abbrev cX4_has : ByteArray := prog_6_method_5_code
def yX4_has : MethodName := ⟨RX4, "has", "(I)Z"⟩
abbrev cX4_canTake : ByteArray := prog_6_method_6_code
def yX4_canTake : MethodName := ⟨RX4, "canTake", "(II)Z"⟩
abbrev cX4_change : ByteArray := prog_6_method_7_code
def yX4_change : MethodName := ⟨RX4, "change", "(II)V"⟩
abbrev cX4_makeWay : ByteArray := prog_6_method_8_code
def yX4_makeWay : MethodName := ⟨RX4, "makeWay", "(II)V"⟩
abbrev cX4_closeUp : ByteArray := prog_6_method_9_code
def yX4_closeUp : MethodName := ⟨RX4, "closeUp", "(I)V"⟩
def RX5 : String := "GuessedPlace$Level"
def TX5 : u_T := fun k => match k with
  | 0 => ("GuessedPlace$Level", "row", "[I", true)
  | 1 => ("GuessedPlace$Level", "size", "I", false)
  | 2 => ("GuessedPlace$Level", "slack", "I", false)
  | 3 => ("GuessedPlace$Level", "pieces", "I", false)
  | 4 => ("GuessedPlace$Level", "first", "[I", true)
  | 5 => ("GuessedPlace$Level", "slopeP", "[I", true)
  | 6 => ("GuessedPlace$Level", "slopeQ", "[I", true)
  | _ => ("GuessedPlace$Level", "lines", "[J", true)
def tyX5 : Nat → FieldType := fun k => match k with
  | 0 => .array .int
  | 1 => .int
  | 2 => .int
  | 3 => .int
  | 4 => .array .int
  | 5 => .array .int
  | 6 => .array .int
  | _ => .array .long
abbrev wsX50 : List Cond := u_ws RX5 TX5 8
theorem nmX5 : ∀ a, a < 8 → ∀ b, b < 8 → a ≠ b → (TX5 a).2.1 ≠ (TX5 b).2.1 := by decide +kernel
theorem tyX5_ok : ∀ k, k < 8 → parseFieldDescriptor (TX5 k).2.2.1 = some (tyX5 k) := by decide +kernel
abbrev cX5_init : ByteArray := prog_7_method_1_code
def yX5_init : MethodName := ⟨RX5, "<init>", "(I)V"⟩
abbrev cX5_takeRow : ByteArray := prog_7_method_2_code
def yX5_takeRow : MethodName := ⟨RX5, "takeRow", "([II)V"⟩
abbrev cX5_takeFirstKeys : ByteArray := prog_7_method_3_code
def yX5_takeFirstKeys : MethodName := ⟨RX5, "takeFirstKeys", "(LGuessedPlace$Level;)V"⟩
abbrev cX5_coverBy : ByteArray := prog_7_method_4_code
def yX5_coverBy : MethodName := ⟨RX5, "coverBy", "(LGuessedPlace$Fit;I)V"⟩
abbrev cX5_setLine : ByteArray := prog_7_method_5_code
def yX5_setLine : MethodName := ⟨RX5, "setLine", "(IIJJ)V"⟩
abbrev cX5_divisor : ByteArray := prog_7_method_6_code
def yX5_divisor : MethodName := ⟨RX5, "divisor", "(JJ)J"⟩
abbrev cX5_lastOf : ByteArray := prog_7_method_7_code
def yX5_lastOf : MethodName := ⟨RX5, "lastOf", "(I)I"⟩
abbrev cX5_firstKeyOf : ByteArray := prog_7_method_8_code
def yX5_firstKeyOf : MethodName := ⟨RX5, "firstKeyOf", "(I)I"⟩
abbrev cX5_guessed : ByteArray := prog_7_method_9_code
def yX5_guessed : MethodName := ⟨RX5, "guessed", "(II)I"⟩
def RX6 : String := "GuessedPlace$Plane"
def TX6 : u_T := fun k => match k with
  | 0 => ("GuessedPlace$Plane", "xs", "[I", true)
  | 1 => ("GuessedPlace$Plane", "ys", "[I", true)
  | 2 => ("GuessedPlace$Plane", "points", "I", false)
  | 3 => ("GuessedPlace$Plane", "boxes", "[I", true)
  | _ => ("GuessedPlace$Plane", "boxCount", "I", false)
def tyX6 : Nat → FieldType := fun k => match k with
  | 0 => .array .int
  | 1 => .array .int
  | 2 => .int
  | 3 => .array .int
  | _ => .int
abbrev wsX60 : List Cond := u_ws RX6 TX6 5
theorem nmX6 : ∀ a, a < 5 → ∀ b, b < 5 → a ≠ b → (TX6 a).2.1 ≠ (TX6 b).2.1 := by decide +kernel
theorem tyX6_ok : ∀ k, k < 5 → parseFieldDescriptor (TX6 k).2.2.1 = some (tyX6 k) := by decide +kernel
abbrev cX6_init : ByteArray := prog_8_method_1_code
def yX6_init : MethodName := ⟨RX6, "<init>", "()V"⟩
abbrev cX6_copyFrom : ByteArray := prog_8_method_2_code
def yX6_copyFrom : MethodName := ⟨RX6, "copyFrom", "(LGuessedPlace$Plane;)V"⟩
abbrev cX6_addPoint : ByteArray := prog_8_method_3_code
def yX6_addPoint : MethodName := ⟨RX6, "addPoint", "(II)I"⟩
abbrev cX6_addBox : ByteArray := prog_8_method_4_code
def yX6_addBox : MethodName := ⟨RX6, "addBox", "(IIII)I"⟩
abbrev cX6_inside : ByteArray := prog_8_method_5_code
def yX6_inside : MethodName := ⟨RX6, "inside", "(I)I"⟩
abbrev cX6_readBy : ByteArray := prog_8_method_6_code
def yX6_readBy : MethodName := ⟨RX6, "readBy", "(II)I"⟩
abbrev cX6_isOn : ByteArray := prog_8_method_7_code
def yX6_isOn : MethodName := ⟨RX6, "isOn", "(I)Z"⟩
abbrev cX6_number : ByteArray := prog_8_method_8_code
def yX6_number : MethodName := ⟨RX6, "number", "(III)I"⟩
def RX7 : String := "GuessedPlace$Side"
def TX7 : u_T := fun k => match k with
  | 0 => ("GuessedPlace$Side", "xs", "[I", true)
  | 1 => ("GuessedPlace$Side", "tops", "[I", true)
  | 2 => ("GuessedPlace$Side", "start", "I", false)
  | 3 => ("GuessedPlace$Side", "size", "I", false)
  | 4 => ("GuessedPlace$Side", "p", "J", false)
  | _ => ("GuessedPlace$Side", "q", "J", false)
def tyX7 : Nat → FieldType := fun k => match k with
  | 0 => .array .int
  | 1 => .array .int
  | 2 => .int
  | 3 => .int
  | 4 => .long
  | _ => .long
abbrev wsX70 : List Cond := u_ws RX7 TX7 6
theorem nmX7 : ∀ a, a < 6 → ∀ b, b < 6 → a ≠ b → (TX7 a).2.1 ≠ (TX7 b).2.1 := by decide +kernel
theorem tyX7_ok : ∀ k, k < 6 → parseFieldDescriptor (TX7 k).2.2.1 = some (tyX7 k) := by decide +kernel
abbrev cX7_init : ByteArray := prog_9_method_1_code
def yX7_init : MethodName := ⟨RX7, "<init>", "()V"⟩
abbrev cX7_begin : ByteArray := prog_9_method_2_code
def yX7_begin : MethodName := ⟨RX7, "begin", "(JJ)V"⟩
abbrev cX7_addBottom : ByteArray := prog_9_method_3_code
def yX7_addBottom : MethodName := ⟨RX7, "addBottom", "(II)V"⟩
abbrev cX7_addTop : ByteArray := prog_9_method_4_code
def yX7_addTop : MethodName := ⟨RX7, "addTop", "(II)V"⟩
def RX8 : String := "GuessedPlace$Sieve"
def TX8 : u_T := fun k => match k with
  | 0 => ("GuessedPlace$Sieve", "marks", "[Z", true)
  | 1 => ("GuessedPlace$Sieve", "bits", "I", false)
  | 2 => ("GuessedPlace$Sieve", "hashes", "I", false)
  | 3 => ("GuessedPlace$Sieve", "all", "LGuessedPlace$Keys;", false)
  | _ => ("GuessedPlace$Sieve", "width", "I", false)
def tyX8 : Nat → FieldType := fun k => match k with
  | 0 => .array .boolean
  | 1 => .int
  | 2 => .int
  | 3 => .object "GuessedPlace$Keys"
  | _ => .int
abbrev wsX80 : List Cond := u_ws RX8 TX8 5
theorem nmX8 : ∀ a, a < 5 → ∀ b, b < 5 → a ≠ b → (TX8 a).2.1 ≠ (TX8 b).2.1 := by decide +kernel
theorem tyX8_ok : ∀ k, k < 5 → parseFieldDescriptor (TX8 k).2.2.1 = some (tyX8 k) := by decide +kernel
abbrev cX8_init : ByteArray := prog_10_method_1_code
def yX8_init : MethodName := ⟨RX8, "<init>", "()V"⟩
abbrev cX8_ready : ByteArray := prog_10_method_2_code
def yX8_ready : MethodName := ⟨RX8, "ready", "(LGuessedPlace$State;Z)V"⟩
abbrev cX8_lets : ByteArray := prog_10_method_3_code
def yX8_lets : MethodName := ⟨RX8, "lets", "(I)Z"⟩
abbrev cX8_isInSpan : ByteArray := prog_10_method_4_code
def yX8_isInSpan : MethodName := ⟨RX8, "isInSpan", "(I)Z"⟩
abbrev cX8_isNearNext : ByteArray := prog_10_method_5_code
def yX8_isNearNext : MethodName := ⟨RX8, "isNearNext", "(I)Z"⟩
abbrev cX8_mark : ByteArray := prog_10_method_6_code
def yX8_mark : MethodName := ⟨RX8, "mark", "(I)V"⟩
abbrev cX8_hash : ByteArray := prog_10_method_7_code
def yX8_hash : MethodName := ⟨RX8, "hash", "(II)I"⟩
def RX9 : String := "GuessedPlace$State"
def TX9 : u_T := fun k => match k with
  | 0 => ("GuessedPlace$State", "keys", "LGuessedPlace$Keys;", true)
  | 1 => ("GuessedPlace$State", "row", "[I", true)
  | 2 => ("GuessedPlace$State", "rowSize", "I", false)
  | 3 => ("GuessedPlace$State", "told", "[I", true)
  | 4 => ("GuessedPlace$State", "cost", "I", false)
  | 5 => ("GuessedPlace$State", "acts", "LGuessedPlace$Acts;", true)
  | 6 => ("GuessedPlace$State", "gaps", "LGuessedPlace$Gaps;", true)
  | _ => ("GuessedPlace$State", "plane", "LGuessedPlace$Plane;", true)
def tyX9 : Nat → FieldType := fun k => match k with
  | 0 => .object "GuessedPlace$Keys"
  | 1 => .array .int
  | 2 => .int
  | 3 => .array .int
  | 4 => .int
  | 5 => .object "GuessedPlace$Acts"
  | 6 => .object "GuessedPlace$Gaps"
  | _ => .object "GuessedPlace$Plane"
abbrev wsX90 : List Cond := u_ws RX9 TX9 8
theorem nmX9 : ∀ a, a < 8 → ∀ b, b < 8 → a ≠ b → (TX9 a).2.1 ≠ (TX9 b).2.1 := by decide +kernel
theorem tyX9_ok : ∀ k, k < 8 → parseFieldDescriptor (TX9 k).2.2.1 = some (tyX9 k) := by decide +kernel
abbrev cX9_init : ByteArray := prog_11_method_1_code
def yX9_init : MethodName := ⟨RX9, "<init>", "()V"⟩
abbrev cX9_copyFrom : ByteArray := prog_11_method_2_code
def yX9_copyFrom : MethodName := ⟨RX9, "copyFrom", "(LGuessedPlace$State;)V"⟩
abbrev cX9_standAll : ByteArray := prog_11_method_3_code
def yX9_standAll : MethodName := ⟨RX9, "standAll", "()V"⟩
abbrev cX9_stands : ByteArray := prog_11_method_4_code
def yX9_stands : MethodName := ⟨RX9, "stands", "(I)Z"⟩
abbrev cX9_standing : ByteArray := prog_11_method_5_code
def yX9_standing : MethodName := ⟨RX9, "standing", "()I"⟩
abbrev cX9_waiting : ByteArray := prog_11_method_6_code
def yX9_waiting : MethodName := ⟨RX9, "waiting", "()I"⟩
def RX10 : String := "GuessedPlace$Teller"
def TX10 : u_T := fun k => match k with
  | 0 => ("GuessedPlace$Teller", "tape", "[B", true)
  | 1 => ("GuessedPlace$Teller", "length", "I", false)
  | 2 => ("GuessedPlace$Teller", "keys", "LGuessedPlace$Keys;", true)
  | 3 => ("GuessedPlace$Teller", "told", "[I", true)
  | 4 => ("GuessedPlace$Teller", "faultKind", "I", false)
  | 5 => ("GuessedPlace$Teller", "faultPlace", "I", false)
  | 6 => ("GuessedPlace$Teller", "kinds", "[I", true)
  | 7 => ("GuessedPlace$Teller", "places", "[I", true)
  | 8 => ("GuessedPlace$Teller", "values", "[I", true)
  | _ => ("GuessedPlace$Teller", "next", "I", false)
def tyX10 : Nat → FieldType := fun k => match k with
  | 0 => .array .byte
  | 1 => .int
  | 2 => .object "GuessedPlace$Keys"
  | 3 => .array .int
  | 4 => .int
  | 5 => .int
  | 6 => .array .int
  | 7 => .array .int
  | 8 => .array .int
  | _ => .int
abbrev wsX100 : List Cond := u_ws RX10 TX10 10
theorem nmX10 : ∀ a, a < 10 → ∀ b, b < 10 → a ≠ b → (TX10 a).2.1 ≠ (TX10 b).2.1 := by decide +kernel
theorem tyX10_ok : ∀ k, k < 10 → parseFieldDescriptor (TX10 k).2.2.1 = some (tyX10 k) := by decide +kernel
abbrev cX10_init : ByteArray := prog_12_method_1_code
def yX10_init : MethodName := ⟨RX10, "<init>", "()V"⟩
abbrev cX10_addFour : ByteArray := prog_12_method_2_code
def yX10_addFour : MethodName := ⟨RX10, "addFour", "(I)V"⟩
abbrev cX10_readAll : ByteArray := prog_12_method_3_code
def yX10_readAll : MethodName := ⟨RX10, "readAll", "(LGuessedPlace$State;)V"⟩
abbrev cX10_fail : ByteArray := prog_12_method_4_code
def yX10_fail : MethodName := ⟨RX10, "fail", "(II)Z"⟩
abbrev cX10_take : ByteArray := prog_12_method_5_code
def yX10_take : MethodName := ⟨RX10, "take", "(I)Z"⟩
abbrev cX10_takeNumber : ByteArray := prog_12_method_6_code
def yX10_takeNumber : MethodName := ⟨RX10, "takeNumber", "(II)Z"⟩
abbrev cX10_readStatement : ByteArray := prog_12_method_7_code
def yX10_readStatement : MethodName := ⟨RX10, "readStatement", "(I)Z"⟩
abbrev cX10_readKey : ByteArray := prog_12_method_8_code
def yX10_readKey : MethodName := ⟨RX10, "readKey", "(I)Z"⟩
abbrev cX10_readRun : ByteArray := prog_12_method_9_code
def yX10_readRun : MethodName := ⟨RX10, "readRun", "(I)Z"⟩
abbrev cX10_readDrop : ByteArray := prog_12_method_10_code
def yX10_readDrop : MethodName := ⟨RX10, "readDrop", "()Z"⟩
abbrev cX10_readSetting : ByteArray := prog_12_method_11_code
def yX10_readSetting : MethodName := ⟨RX10, "readSetting", "(I)Z"⟩
abbrev cX10_splitTape : ByteArray := prog_12_method_12_code
def yX10_splitTape : MethodName := ⟨RX10, "splitTape", "()V"⟩
abbrev cX10_split : ByteArray := prog_12_method_13_code
def yX10_split : MethodName := ⟨RX10, "split", "(II)I"⟩
abbrev cX10_splitWord : ByteArray := prog_12_method_14_code
def yX10_splitWord : MethodName := ⟨RX10, "splitWord", "(II)I"⟩
abbrev cX10_splitNumber : ByteArray := prog_12_method_15_code
def yX10_splitNumber : MethodName := ⟨RX10, "splitNumber", "(II)I"⟩
abbrev cX10_stands : ByteArray := prog_12_method_16_code
def yX10_stands : MethodName := ⟨RX10, "stands", "(Ljava/lang/String;II)Z"⟩
abbrev cX10_isLetter : ByteArray := prog_12_method_17_code
def yX10_isLetter : MethodName := ⟨RX10, "isLetter", "(I)Z"⟩
abbrev cX10_isDigit : ByteArray := prog_12_method_18_code
def yX10_isDigit : MethodName := ⟨RX10, "isDigit", "(I)Z"⟩
abbrev cX10_keyword : ByteArray := prog_12_method_19_code
def yX10_keyword : MethodName := ⟨RX10, "keyword", "(I)Ljava/lang/String;"⟩
def RX11 : String := "GuessedPlace"
def TX11 : u_T := fun k => match k with
  | 0 => ("GuessedPlace", "now", "LGuessedPlace$State;", true)
  | 1 => ("GuessedPlace", "kept", "LGuessedPlace$State;", true)
  | 2 => ("GuessedPlace", "isKept", "Z", false)
  | 3 => ("GuessedPlace", "teller", "LGuessedPlace$Teller;", true)
  | 4 => ("GuessedPlace", "cover", "LGuessedPlace$Cover;", true)
  | 5 => ("GuessedPlace", "trial", "LGuessedPlace$Cover;", true)
  | 6 => ("GuessedPlace", "sieve", "LGuessedPlace$Sieve;", true)
  | _ => ("GuessedPlace", "spoilt", "[I", true)
def tyX11 : Nat → FieldType := fun k => match k with
  | 0 => .object "GuessedPlace$State"
  | 1 => .object "GuessedPlace$State"
  | 2 => .boolean
  | 3 => .object "GuessedPlace$Teller"
  | 4 => .object "GuessedPlace$Cover"
  | 5 => .object "GuessedPlace$Cover"
  | 6 => .object "GuessedPlace$Sieve"
  | _ => .array .int
abbrev wsX110 : List Cond := u_ws RX11 TX11 8
theorem nmX11 : ∀ a, a < 8 → ∀ b, b < 8 → a ≠ b → (TX11 a).2.1 ≠ (TX11 b).2.1 := by decide +kernel
theorem tyX11_ok : ∀ k, k < 8 → parseFieldDescriptor (TX11 k).2.2.1 = some (tyX11 k) := by decide +kernel
abbrev cX11_init : ByteArray := prog_1_method_1_code
def yX11_init : MethodName := ⟨RX11, "<init>", "()V"⟩
abbrev cX11_feed : ByteArray := prog_1_method_2_code
def yX11_feed : MethodName := ⟨RX11, "feed", "(IIIII)I"⟩
abbrev cX11_end : ByteArray := prog_1_method_3_code
def yX11_end : MethodName := ⟨RX11, "end", "(I)Z"⟩
abbrev cX11_text : ByteArray := prog_1_method_4_code
def yX11_text : MethodName := ⟨RX11, "text", "()I"⟩
abbrev cX11_fault : ByteArray := prog_1_method_5_code
def yX11_fault : MethodName := ⟨RX11, "fault", "(I)I"⟩
abbrev cX11_set : ByteArray := prog_1_method_6_code
def yX11_set : MethodName := ⟨RX11, "set", "(II)Z"⟩
abbrev cX11_insert : ByteArray := prog_1_method_7_code
def yX11_insert : MethodName := ⟨RX11, "insert", "(I)I"⟩
abbrev cX11_remove : ByteArray := prog_1_method_8_code
def yX11_remove : MethodName := ⟨RX11, "remove", "(I)I"⟩
abbrev cX11_undo : ByteArray := prog_1_method_9_code
def yX11_undo : MethodName := ⟨RX11, "undo", "(Z)I"⟩
abbrev cX11_build : ByteArray := prog_1_method_10_code
def yX11_build : MethodName := ⟨RX11, "build", "()I"⟩
abbrev cX11_count : ByteArray := prog_1_method_11_code
def yX11_count : MethodName := ⟨RX11, "count", "(I)I"⟩
abbrev cX11_key : ByteArray := prog_1_method_12_code
def yX11_key : MethodName := ⟨RX11, "key", "(I)I"⟩
abbrev cX11_rank : ByteArray := prog_1_method_13_code
def yX11_rank : MethodName := ⟨RX11, "rank", "(I)I"⟩
abbrev cX11_range : ByteArray := prog_1_method_14_code
def yX11_range : MethodName := ⟨RX11, "range", "(III)J"⟩
abbrev cX11_piece : ByteArray := prog_1_method_15_code
def yX11_piece : MethodName := ⟨RX11, "piece", "(III)I"⟩
abbrev cX11_guess : ByteArray := prog_1_method_16_code
def yX11_guess : MethodName := ⟨RX11, "guess", "(III)I"⟩
abbrev cX11_seek : ByteArray := prog_1_method_17_code
def yX11_seek : MethodName := ⟨RX11, "seek", "(II)I"⟩
abbrev cX11_pages : ByteArray := prog_1_method_18_code
def yX11_pages : MethodName := ⟨RX11, "pages", "(I)I"⟩
abbrev cX11_errors : ByteArray := prog_1_method_19_code
def yX11_errors : MethodName := ⟨RX11, "errors", "(II)I"⟩
abbrev cX11_bestSlack : ByteArray := prog_1_method_20_code
def yX11_bestSlack : MethodName := ⟨RX11, "bestSlack", "(I)I"⟩
abbrev cX11_lay : ByteArray := prog_1_method_21_code
def yX11_lay : MethodName := ⟨RX11, "lay", "()I"⟩
abbrev cX11_put : ByteArray := prog_1_method_22_code
def yX11_put : MethodName := ⟨RX11, "put", "(I)I"⟩
abbrev cX11_cell : ByteArray := prog_1_method_23_code
def yX11_cell : MethodName := ⟨RX11, "cell", "(I)I"⟩
abbrev cX11_poison : ByteArray := prog_1_method_24_code
def yX11_poison : MethodName := ⟨RX11, "poison", "(I)I"⟩
abbrev cX11_passes : ByteArray := prog_1_method_25_code
def yX11_passes : MethodName := ⟨RX11, "passes", "(IZ)Z"⟩
abbrev cX11_falses : ByteArray := prog_1_method_26_code
def yX11_falses : MethodName := ⟨RX11, "falses", "(IIZ)I"⟩
abbrev cX11_point : ByteArray := prog_1_method_27_code
def yX11_point : MethodName := ⟨RX11, "point", "(II)I"⟩
abbrev cX11_box : ByteArray := prog_1_method_28_code
def yX11_box : MethodName := ⟨RX11, "box", "(IIII)I"⟩
abbrev cX11_boxed : ByteArray := prog_1_method_29_code
def yX11_boxed : MethodName := ⟨RX11, "boxed", "(II)I"⟩
abbrev cX11_bestOrder : ByteArray := prog_1_method_30_code
def yX11_bestOrder : MethodName := ⟨RX11, "bestOrder", "()I"⟩
abbrev cX11_image : ByteArray := prog_1_method_31_code
def yX11_image : MethodName := ⟨RX11, "image", "(Z)Z"⟩
abbrev cX11_look : ByteArray := prog_1_method_32_code
def yX11_look : MethodName := ⟨RX11, "look", "(I)I"⟩
abbrev cX11_buildAll : ByteArray := prog_1_method_33_code
def yX11_buildAll : MethodName := ⟨RX11, "buildAll", "()V"⟩
abbrev cX11_isPiece : ByteArray := prog_1_method_34_code
def yX11_isPiece : MethodName := ⟨RX11, "isPiece", "(II)Z"⟩
abbrev cX11_treeHeight : ByteArray := prog_1_method_35_code
def yX11_treeHeight : MethodName := ⟨RX11, "treeHeight", "()I"⟩
abbrev cX11_piecesWith : ByteArray := prog_1_method_36_code
def yX11_piecesWith : MethodName := ⟨RX11, "piecesWith", "(I)I"⟩
abbrev cX11_canBeKey : ByteArray := prog_1_method_37_code
def yX11_canBeKey : MethodName := ⟨RX11, "canBeKey", "(I)Z"⟩
abbrev cX11_canBeTold : ByteArray := prog_1_method_38_code
def yX11_canBeTold : MethodName := ⟨RX11, "canBeTold", "(II)Z"⟩
abbrev cX11_lessThan : ByteArray := prog_1_method_39_code
def yX11_lessThan : MethodName := ⟨RX11, "lessThan", "([III)I"⟩
def RX12 : String := "GuessedPlaceModel"
def TX12 : u_T := fun k => match k with
  | 0 => ("GuessedPlaceModel", "w", "[I", true)
  | 1 => ("GuessedPlaceModel", "kept", "[I", true)
  | 2 => ("GuessedPlaceModel", "before", "[I", true)
  | 3 => ("GuessedPlaceModel", "hasImage", "Z", false)
  | 4 => ("GuessedPlaceModel", "all", "[I", true)
  | 5 => ("GuessedPlaceModel", "allCount", "[I", true)
  | 6 => ("GuessedPlaceModel", "tape", "[I", true)
  | 7 => ("GuessedPlaceModel", "taped", "I", false)
  | 8 => ("GuessedPlaceModel", "at", "I", false)
  | 9 => ("GuessedPlaceModel", "token", "I", false)
  | 10 => ("GuessedPlaceModel", "tokenAt", "I", false)
  | 11 => ("GuessedPlaceModel", "value", "I", false)
  | 12 => ("GuessedPlaceModel", "wrong", "I", false)
  | 13 => ("GuessedPlaceModel", "wrongAt", "I", false)
  | 14 => ("GuessedPlaceModel", "faultKind", "I", false)
  | 15 => ("GuessedPlaceModel", "faultPlace", "I", false)
  | 16 => ("GuessedPlaceModel", "got", "I", false)
  | 17 => ("GuessedPlaceModel", "levelKey", "[[I", true)
  | 18 => ("GuessedPlaceModel", "firstOf", "[[I", true)
  | 19 => ("GuessedPlaceModel", "lastOf", "[[I", true)
  | 20 => ("GuessedPlaceModel", "slopeUp", "[[J", true)
  | 21 => ("GuessedPlaceModel", "slopeDown", "[[J", true)
  | 22 => ("GuessedPlaceModel", "keysAt", "[I", true)
  | 23 => ("GuessedPlaceModel", "piecesAt", "[I", true)
  | 24 => ("GuessedPlaceModel", "slackAt", "[I", true)
  | 25 => ("GuessedPlaceModel", "levels", "I", false)
  | 26 => ("GuessedPlaceModel", "needUp", "J", false)
  | 27 => ("GuessedPlaceModel", "needDown", "J", false)
  | 28 => ("GuessedPlaceModel", "mayUp", "J", false)
  | 29 => ("GuessedPlaceModel", "mayDown", "J", false)
  | 30 => ("GuessedPlaceModel", "compared", "I", false)
  | 31 => ("GuessedPlaceModel", "bit", "[Z", true)
  | _ => ("GuessedPlaceModel", "isOther", "[Z", true)
def tyX12 : Nat → FieldType := fun k => match k with
  | 0 => .array .int
  | 1 => .array .int
  | 2 => .array .int
  | 3 => .boolean
  | 4 => .array .int
  | 5 => .array .int
  | 6 => .array .int
  | 7 => .int
  | 8 => .int
  | 9 => .int
  | 10 => .int
  | 11 => .int
  | 12 => .int
  | 13 => .int
  | 14 => .int
  | 15 => .int
  | 16 => .int
  | 17 => .array (.array .int)
  | 18 => .array (.array .int)
  | 19 => .array (.array .int)
  | 20 => .array (.array .long)
  | 21 => .array (.array .long)
  | 22 => .array .int
  | 23 => .array .int
  | 24 => .array .int
  | 25 => .int
  | 26 => .long
  | 27 => .long
  | 28 => .long
  | 29 => .long
  | 30 => .int
  | 31 => .array .boolean
  | _ => .array .boolean
abbrev wsX120 : List Cond := u_ws RX12 TX12 33
theorem nmX12 : ∀ a, a < 33 → ∀ b, b < 33 → a ≠ b → (TX12 a).2.1 ≠ (TX12 b).2.1 := by decide +kernel
theorem tyX12_ok : ∀ k, k < 33 → parseFieldDescriptor (TX12 k).2.2.1 = some (tyX12 k) := by decide +kernel
abbrev cX12_init : ByteArray := prog_14_method_1_code
def yX12_init : MethodName := ⟨RX12, "<init>", "()V"⟩
abbrev cX12_isIn : ByteArray := prog_14_method_2_code
def yX12_isIn : MethodName := ⟨RX12, "isIn", "(III)Z"⟩
abbrev cX12_isNumber : ByteArray := prog_14_method_3_code
def yX12_isNumber : MethodName := ⟨RX12, "isNumber", "(I)Z"⟩
abbrev cX12_placeIn : ByteArray := prog_14_method_4_code
def yX12_placeIn : MethodName := ⟨RX12, "placeIn", "(III)I"⟩
abbrev cX12_isAt : ByteArray := prog_14_method_5_code
def yX12_isAt : MethodName := ⟨RX12, "isAt", "(IIII)Z"⟩
abbrev cX12_count : ByteArray := prog_14_method_6_code
def yX12_count : MethodName := ⟨RX12, "count", "(I)I"⟩
abbrev cX12_gone : ByteArray := prog_14_method_7_code
def yX12_gone : MethodName := ⟨RX12, "gone", "()I"⟩
abbrev cX12_keys : ByteArray := prog_14_method_8_code
def yX12_keys : MethodName := ⟨RX12, "keys", "()I"⟩
abbrev cX12_counts : ByteArray := prog_14_method_9_code
def yX12_counts : MethodName := ⟨RX12, "counts", "(II)V"⟩
abbrev cX12_laysAll : ByteArray := prog_14_method_10_code
def yX12_laysAll : MethodName := ⟨RX12, "laysAll", "()I"⟩
abbrev cX12_builds : ByteArray := prog_14_method_11_code
def yX12_builds : MethodName := ⟨RX12, "builds", "()I"⟩
abbrev cX12_forgets : ByteArray := prog_14_method_12_code
def yX12_forgets : MethodName := ⟨RX12, "forgets", "()V"⟩
abbrev cX12_build : ByteArray := prog_14_method_13_code
def yX12_build : MethodName := ⟨RX12, "build", "()I"⟩
abbrev cX12_set : ByteArray := prog_14_method_14_code
def yX12_set : MethodName := ⟨RX12, "set", "(II)Z"⟩
abbrev cX12_pushes : ByteArray := prog_14_method_15_code
def yX12_pushes : MethodName := ⟨RX12, "pushes", "(IIII)V"⟩
abbrev cX12_acts : ByteArray := prog_14_method_16_code
def yX12_acts : MethodName := ⟨RX12, "acts", "(II)V"⟩
abbrev cX12_insert : ByteArray := prog_14_method_17_code
def yX12_insert : MethodName := ⟨RX12, "insert", "(I)I"⟩
abbrev cX12_remove : ByteArray := prog_14_method_18_code
def yX12_remove : MethodName := ⟨RX12, "remove", "(I)I"⟩
abbrev cX12_undo : ByteArray := prog_14_method_19_code
def yX12_undo : MethodName := ⟨RX12, "undo", "(Z)I"⟩
abbrev cX12_key : ByteArray := prog_14_method_20_code
def yX12_key : MethodName := ⟨RX12, "key", "(I)I"⟩
abbrev cX12_rank : ByteArray := prog_14_method_21_code
def yX12_rank : MethodName := ⟨RX12, "rank", "(I)I"⟩
abbrev cX12_range : ByteArray := prog_14_method_22_code
def yX12_range : MethodName := ⟨RX12, "range", "(III)J"⟩
abbrev cX12_feed : ByteArray := prog_14_method_23_code
def yX12_feed : MethodName := ⟨RX12, "feed", "(IIIII)I"⟩
abbrev cX12_end : ByteArray := prog_14_method_24_code
def yX12_end : MethodName := ⟨RX12, "end", "(I)Z"⟩
abbrev cX12_see : ByteArray := prog_14_method_25_code
def yX12_see : MethodName := ⟨RX12, "see", "(I)I"⟩
abbrev cX12_isLetter : ByteArray := prog_14_method_26_code
def yX12_isLetter : MethodName := ⟨RX12, "isLetter", "(I)Z"⟩
abbrev cX12_isDigit : ByteArray := prog_14_method_27_code
def yX12_isDigit : MethodName := ⟨RX12, "isDigit", "(I)Z"⟩
abbrev cX12_is : ByteArray := prog_14_method_28_code
def yX12_is : MethodName := ⟨RX12, "is", "(Ljava/lang/String;)Z"⟩
abbrev cX12_word : ByteArray := prog_14_method_29_code
def yX12_word : MethodName := ⟨RX12, "word", "()I"⟩
abbrev cX12_next0 : ByteArray := prog_14_method_30_code
def yX12_next0 : MethodName := ⟨RX12, "next0", "()V"⟩
abbrev cX12_bad : ByteArray := prog_14_method_31_code
def yX12_bad : MethodName := ⟨RX12, "bad", "(II)Z"⟩
abbrev cX12_number : ByteArray := prog_14_method_32_code
def yX12_number : MethodName := ⟨RX12, "number", "(II)Z"⟩
abbrev cX12_comes : ByteArray := prog_14_method_33_code
def yX12_comes : MethodName := ⟨RX12, "comes", "(II)Z"⟩
abbrev cX12_aKey : ByteArray := prog_14_method_34_code
def yX12_aKey : MethodName := ⟨RX12, "aKey", "(I)Z"⟩
abbrev cX12_aRun : ByteArray := prog_14_method_35_code
def yX12_aRun : MethodName := ⟨RX12, "aRun", "(I)Z"⟩
abbrev cX12_statement : ByteArray := prog_14_method_36_code
def yX12_statement : MethodName := ⟨RX12, "statement", "(I)Z"⟩
abbrev cX12_text : ByteArray := prog_14_method_37_code
def yX12_text : MethodName := ⟨RX12, "text", "()I"⟩
abbrev cX12_fault : ByteArray := prog_14_method_38_code
def yX12_fault : MethodName := ⟨RX12, "fault", "(I)I"⟩
abbrev cX12_common : ByteArray := prog_14_method_39_code
def yX12_common : MethodName := ⟨RX12, "common", "(JJ)J"⟩
abbrev cX12_comesTo : ByteArray := prog_14_method_40_code
def yX12_comesTo : MethodName := ⟨RX12, "comesTo", "(III)Z"⟩
abbrev cX12_covers : ByteArray := prog_14_method_41_code
def yX12_covers : MethodName := ⟨RX12, "covers", "(I)V"⟩
abbrev cX12_laysLevels : ByteArray := prog_14_method_42_code
def yX12_laysLevels : MethodName := ⟨RX12, "laysLevels", "(II)V"⟩
abbrev cX12_laysRow : ByteArray := prog_14_method_43_code
def yX12_laysRow : MethodName := ⟨RX12, "laysRow", "(I)V"⟩
abbrev cX12_downwards : ByteArray := prog_14_method_44_code
def yX12_downwards : MethodName := ⟨RX12, "downwards", "(JJ)J"⟩
abbrev cX12_guessOf : ByteArray := prog_14_method_45_code
def yX12_guessOf : MethodName := ⟨RX12, "guessOf", "(III)I"⟩
abbrev cX12_isPiece : ByteArray := prog_14_method_46_code
def yX12_isPiece : MethodName := ⟨RX12, "isPiece", "(II)Z"⟩
abbrev cX12_piece : ByteArray := prog_14_method_47_code
def yX12_piece : MethodName := ⟨RX12, "piece", "(III)I"⟩
abbrev cX12_guess : ByteArray := prog_14_method_48_code
def yX12_guess : MethodName := ⟨RX12, "guess", "(III)I"⟩
abbrev cX12_halves : ByteArray := prog_14_method_49_code
def yX12_halves : MethodName := ⟨RX12, "halves", "(IIII)I"⟩
abbrev cX12_seeks : ByteArray := prog_14_method_50_code
def yX12_seeks : MethodName := ⟨RX12, "seeks", "(I)I"⟩
abbrev cX12_seek : ByteArray := prog_14_method_51_code
def yX12_seek : MethodName := ⟨RX12, "seek", "(II)I"⟩
abbrev cX12_pieceOf : ByteArray := prog_14_method_52_code
def yX12_pieceOf : MethodName := ⟨RX12, "pieceOf", "(II)I"⟩
abbrev cX12_pages : ByteArray := prog_14_method_53_code
def yX12_pages : MethodName := ⟨RX12, "pages", "(I)I"⟩
abbrev cX12_errors : ByteArray := prog_14_method_54_code
def yX12_errors : MethodName := ⟨RX12, "errors", "(II)I"⟩
abbrev cX12_bestSlack : ByteArray := prog_14_method_55_code
def yX12_bestSlack : MethodName := ⟨RX12, "bestSlack", "(I)I"⟩
abbrev cX12_lay : ByteArray := prog_14_method_56_code
def yX12_lay : MethodName := ⟨RX12, "lay", "()I"⟩
abbrev cX12_fills : ByteArray := prog_14_method_57_code
def yX12_fills : MethodName := ⟨RX12, "fills", "(II)V"⟩
abbrev cX12_isFull : ByteArray := prog_14_method_58_code
def yX12_isFull : MethodName := ⟨RX12, "isFull", "(I)Z"⟩
abbrev cX12_put : ByteArray := prog_14_method_59_code
def yX12_put : MethodName := ⟨RX12, "put", "(I)I"⟩
abbrev cX12_cell : ByteArray := prog_14_method_60_code
def yX12_cell : MethodName := ⟨RX12, "cell", "(I)I"⟩
abbrev cX12_piecesWith : ByteArray := prog_14_method_61_code
def yX12_piecesWith : MethodName := ⟨RX12, "piecesWith", "(IIZ)I"⟩
abbrev cX12_poison : ByteArray := prog_14_method_62_code
def yX12_poison : MethodName := ⟨RX12, "poison", "(I)I"⟩
abbrev cX12_hash : ByteArray := prog_14_method_63_code
def yX12_hash : MethodName := ⟨RX12, "hash", "(II)I"⟩
abbrev cX12_setsBits : ByteArray := prog_14_method_64_code
def yX12_setsBits : MethodName := ⟨RX12, "setsBits", "(IZ)V"⟩
abbrev cX12_isPassed : ByteArray := prog_14_method_65_code
def yX12_isPassed : MethodName := ⟨RX12, "isPassed", "(IIZ)Z"⟩
abbrev cX12_passes : ByteArray := prog_14_method_66_code
def yX12_passes : MethodName := ⟨RX12, "passes", "(IZ)Z"⟩
abbrev cX12_falses : ByteArray := prog_14_method_67_code
def yX12_falses : MethodName := ⟨RX12, "falses", "(IIZ)I"⟩
abbrev cX12_point : ByteArray := prog_14_method_68_code
def yX12_point : MethodName := ⟨RX12, "point", "(II)I"⟩
abbrev cX12_box : ByteArray := prog_14_method_69_code
def yX12_box : MethodName := ⟨RX12, "box", "(IIII)I"⟩
abbrev cX12_numberBy : ByteArray := prog_14_method_70_code
def yX12_numberBy : MethodName := ⟨RX12, "numberBy", "(III)I"⟩
abbrev cX12_read : ByteArray := prog_14_method_71_code
def yX12_read : MethodName := ⟨RX12, "read", "(II)I"⟩
abbrev cX12_boxed : ByteArray := prog_14_method_72_code
def yX12_boxed : MethodName := ⟨RX12, "boxed", "(II)I"⟩
abbrev cX12_bestOrder : ByteArray := prog_14_method_73_code
def yX12_bestOrder : MethodName := ⟨RX12, "bestOrder", "()I"⟩
abbrev cX12_image : ByteArray := prog_14_method_74_code
def yX12_image : MethodName := ⟨RX12, "image", "(Z)Z"⟩
abbrev cX12_look : ByteArray := prog_14_method_75_code
def yX12_look : MethodName := ⟨RX12, "look", "(I)I"⟩
def RJx145de : String := "java/io/Serializable"
def TJx145de : u_T := fun k => match k with
  | _ => ("", "", "", false)
def tyJx145de : Nat → FieldType := fun k => match k with
  | _ => .int
def RJx9f9b0 : String := "java/lang/CharSequence"
def TJx9f9b0 : u_T := fun k => match k with
  | _ => ("", "", "", false)
def tyJx9f9b0 : Nat → FieldType := fun k => match k with
  | _ => .int
def RJx8e188 : String := "java/lang/Cloneable"
def TJx8e188 : u_T := fun k => match k with
  | _ => ("", "", "", false)
def tyJx8e188 : Nat → FieldType := fun k => match k with
  | _ => .int
def RJxb160c : String := "java/lang/Comparable"
def TJxb160c : u_T := fun k => match k with
  | _ => ("", "", "", false)
def tyJxb160c : Nat → FieldType := fun k => match k with
  | _ => .int
def RJ9 : String := "java/lang/Math"
def TJ9 : u_T := fun k => match k with
  | _ => ("", "", "", false)
def tyJ9 : Nat → FieldType := fun k => match k with
  | _ => .int
abbrev cJ9_floorDiv_f86c9 : ByteArray := prog_16_method_49_code
def yJ9_floorDiv_f86c9 : MethodName := ⟨RJ9, "floorDiv", "(JJ)J"⟩
abbrev cJ9_abs_0f7a4 : ByteArray := prog_16_method_59_code
def yJ9_abs_0f7a4 : MethodName := ⟨RJ9, "abs", "(I)I"⟩
abbrev cJ9_max_7cf53 : ByteArray := prog_16_method_65_code
def yJ9_max_7cf53 : MethodName := ⟨RJ9, "max", "(II)I"⟩
abbrev cJ9_max_f86c9 : ByteArray := prog_16_method_66_code
def yJ9_max_f86c9 : MethodName := ⟨RJ9, "max", "(JJ)J"⟩
abbrev cJ9_min_7cf53 : ByteArray := prog_16_method_69_code
def yJ9_min_7cf53 : MethodName := ⟨RJ9, "min", "(II)I"⟩
abbrev cJ9_min_f86c9 : ByteArray := prog_16_method_70_code
def yJ9_min_f86c9 : MethodName := ⟨RJ9, "min", "(JJ)J"⟩
def RJ0 : String := "java/lang/String"
def TJ0 : u_T := fun k => match k with
  | _ => ("", "", "", false)
def tyJ0 : Nat → FieldType := fun k => match k with
  | _ => .int
abbrev cJ0_length_8abf5 : ByteArray := prog_17_method_54_code
def yJ0_length_8abf5 : MethodName := ⟨RJ0, "length", "()I"⟩
abbrev cJ0_charAt_5068e : ByteArray := prog_17_method_56_code
def yJ0_charAt_5068e : MethodName := ⟨RJ0, "charAt", "(I)C"⟩
abbrev cJ0_coder_7d493 : ByteArray := prog_17_method_152_code
def yJ0_coder_7d493 : MethodName := ⟨RJ0, "coder", "()B"⟩
abbrev cJ0_isLatin1_aae02 : ByteArray := prog_17_method_154_code
def yJ0_isLatin1_aae02 : MethodName := ⟨RJ0, "isLatin1", "()Z"⟩
abbrev cJ0_checkIndex_df160 : ByteArray := prog_17_method_155_code
def yJ0_checkIndex_df160 : MethodName := ⟨RJ0, "checkIndex", "(II)V"⟩
def RJ1 : String := "java/lang/StringLatin1"
def TJ1 : u_T := fun k => match k with
  | _ => ("", "", "", false)
def tyJ1 : Nat → FieldType := fun k => match k with
  | _ => .int
abbrev cJ1_charAt_3b067 : ByteArray := prog_18_method_2_code
def yJ1_charAt_3b067 : MethodName := ⟨RJ1, "charAt", "([BI)C"⟩
def RJ2 : String := "java/lang/StringUTF16"
def TJ2 : u_T := fun k => match k with
  | _ => ("", "", "", false)
def tyJ2 : Nat → FieldType := fun k => match k with
  | _ => .int
abbrev cJ2_getChar_3b067 : ByteArray := prog_19_method_5_code
def yJ2_getChar_3b067 : MethodName := ⟨RJ2, "getChar", "([BI)C"⟩
abbrev cJ2_length_9d52b : ByteArray := prog_19_method_6_code
def yJ2_length_9d52b : MethodName := ⟨RJ2, "length", "([B)I"⟩
abbrev cJ2_charAt_3b067 : ByteArray := prog_19_method_83_code
def yJ2_charAt_3b067 : MethodName := ⟨RJ2, "charAt", "([BI)C"⟩
abbrev cJ2_checkIndex_2214a : ByteArray := prog_19_method_91_code
def yJ2_checkIndex_2214a : MethodName := ⟨RJ2, "checkIndex", "(I[B)V"⟩
def RJ10 : String := "java/lang/System"
def TJ10 : u_T := fun k => match k with
  | _ => ("", "", "", false)
def tyJ10 : Nat → FieldType := fun k => match k with
  | _ => .int
def RJxfd54e : String := "java/lang/constant/Constable"
def TJxfd54e : u_T := fun k => match k with
  | _ => ("", "", "", false)
def tyJxfd54e : Nat → FieldType := fun k => match k with
  | _ => .int
def RJx3cf43 : String := "java/lang/constant/ConstantDesc"
def TJx3cf43 : u_T := fun k => match k with
  | _ => ("", "", "", false)
def tyJx3cf43 : Nat → FieldType := fun k => match k with
  | _ => .int
def RJ7 : String := "java/util/Arrays"
def TJ7 : u_T := fun k => match k with
  | _ => ("", "", "", false)
def tyJ7 : Nat → FieldType := fun k => match k with
  | _ => .int
abbrev cJ7_fill_53178 : ByteArray := prog_21_method_103_code
def yJ7_fill_53178 : MethodName := ⟨RJ7, "fill", "([II)V"⟩
def RJ3 : String := "jdk/internal/util/Preconditions"
def TJ3 : u_T := fun k => match k with
  | _ => ("", "", "", false)
def tyJ3 : Nat → FieldType := fun k => match k with
  | _ => .int
abbrev cJ3_checkIndex_8e157 : ByteArray := prog_22_method_11_code
def yJ3_checkIndex_8e157 : MethodName := ⟨RJ3, "checkIndex", "(IILjava/util/function/BiFunction;)I"⟩
def RL : String := "GuessedPlaceLaw"
abbrev cL_law : ByteArray := code
def yL_law : MethodName := ⟨RL, "law", "([I)Z"⟩
abbrev vwCl : List vw_C := [(RX0, TX0, 4), (RX1, TX1, 4), (RX2, TX2, 4), (RX3, TX3, 1), (RX4, TX4, 3), (RX5, TX5, 8), (RX6, TX6, 5), (RX7, TX7, 6), (RX8, TX8, 5), (RX9, TX9, 8), (RX10, TX10, 10), (RX11, TX11, 8), (RX12, TX12, 33)]
end
section
/-! THE ABSTRACT MACHINE: the same instructions over a small memory. Cells are numbered in the order in which they are made; a cell is an array (kind, length) or an object (number of its kind in vwCl); three memories: ints, longs, references. '.retAddr i' stands for what was there before the law: 0 the script, 1 .. 3 static rows, 20 .. texts, 50 .. their bytes. -/
abbrev zv_M : Type := List ((Nat × Nat) ⊕ Nat) × (Nat → Nat → Int32) × (Nat → Nat → Int64) × (Nat → Nat → Option Nat)
abbrev zv_L : Type := List (Option Value)
abbrev zv_I : Type := Nat × Instr × List Nat
abbrev zv_R : Type := Option Value × zv_M
abbrev zv_X : Type := Nat × (Nat → Int32)
abbrev zv_C : Type := Nat × Nat × zv_L × List Value × zv_M
def zv_lst (l : List Int32) : Nat × (Nat → Int32) := (l.length, fun j => l.getD j 0)
def zv_old (X : zv_X) (i : Nat) : Nat × (Nat → Int32) := match i with
  | 0 => X
  | 1 => zv_lst [1, 1, 4, 8, 8, 64, 2, 0]
  | 2 => zv_lst [0, 0, 0, 1, 2, 8, 1, 0]
  | 3 => zv_lst [20, 20, 50, 99, 99, 512, 4, 99999]
  | 50 => zv_lst [107, 101, 121]
  | 51 => zv_lst [114, 117, 110]
  | 52 => zv_lst [100, 114, 111, 112]
  | 53 => zv_lst [115, 108, 97, 99, 107]
  | 54 => zv_lst [117, 112, 112, 101, 114]
  | 55 => zv_lst [114, 111, 111, 109]
  | _ => (0, fun _ => 0)
section ZVM
variable {α : Type}
def zv_ldi (ls : zv_L) (i : Nat) (k : Int32 → Option α) : Option α := match ls[i]? with
  | some (some (.int x)) => k x
  | _ => none
def zv_ldl (ls : zv_L) (i : Nat) (k : Int64 → Option α) : Option α := match ls[i]? with
  | some (some (.long x)) => k x
  | _ => none
def zv_lda (ls : zv_L) (i : Nat) (k : Value → Option α) : Option α := match ls[i]? with
  | some (some (.ref a)) => k (.ref a)
  | some (some (.retAddr a)) => if a = 90 then none else k (.retAddr a)
  | _ => none
def zv_clr (ls : zv_L) (i : Nat) : zv_L := match i with
  | 0 => ls
  | j + 1 => match ls[j]? with
    | some (some w) => if w.category = 2 then ls.set j none else ls
    | _ => ls
def zv_st (ls : zv_L) (i : Nat) (v : Value) : zv_L := (zv_clr ls i).set i (some v)
def zv_st2 (ls : zv_L) (i : Nat) (v : Value) : zv_L := ((zv_clr ls i).set i (some v)).set (i + 1) none
def zv_sto (ls : zv_L) (i : Nat) (v : Value) (k : zv_L → Option α) : Option α := if i < ls.length then k (zv_st ls i v) else none
def zv_sto2 (ls : zv_L) (i : Nat) (v : Value) (k : zv_L → Option α) : Option α := if i + 1 < ls.length then k (zv_st2 ls i v) else none
def zv_p1i (st : List Value) (k : Int32 → List Value → Option α) : Option α := match st with
  | .int x :: st => k x st
  | _ => none
def zv_p2i (st : List Value) (k : Int32 → Int32 → List Value → Option α) : Option α := match st with
  | .int y :: .int x :: st => k x y st
  | _ => none
def zv_p1l (st : List Value) (k : Int64 → List Value → Option α) : Option α := match st with
  | .long x :: st => k x st
  | _ => none
def zv_p2l (st : List Value) (k : Int64 → Int64 → List Value → Option α) : Option α := match st with
  | .long y :: .long x :: st => k x y st
  | _ => none
def zv_p1a (st : List Value) (k : Value → List Value → Option α) : Option α := match st with
  | .ref a :: st => k (.ref a) st
  | .retAddr a :: st => if a = 90 then none else k (.retAddr a) st
  | _ => none
def zv_ldc (d : List Nat) (k : Value → Option α) : Option α := match d with
  | [0, v] => k (.int (Int32.ofNat v))
  | [1, i] => k (.retAddr i)
  | _ => none
/-- the place i of the array a of kind t -/
def zv_ix (μ : zv_M) (t a : Nat) (i : Int32) (k : Nat → Option α) : Option α := match μ.1[a]? with
  | some (.inl (t', n)) => if t' = t then (if i < 0 ∨ n ≤ i.toNatClampNeg then none else k i.toNatClampNeg) else none
  | _ => none
def zv_iq (μ : zv_M) (a : Nat) (i : Int32) (k : Nat → Option α) : Option α := match μ.1[a]? with
  | some (.inl (t, n)) => if t < 4 ∨ 7 ≤ t then none else (if i < 0 ∨ n ≤ i.toNatClampNeg then none else k i.toNatClampNeg)
  | _ => none
def zv_ox (X : zv_X) (o : Nat) (i : Int32) (k : Int32 → Option α) : Option α := if i < 0 ∨ (zv_old X o).1 ≤ i.toNatClampNeg then none else k ((zv_old X o).2 i.toNatClampNeg)
/-- the object a of kind c -/
def zv_ob (μ : zv_M) (c a : Nat) (r : Option α) : Option α := match μ.1[a]? with
  | some (.inr c') => if c' = c then r else none
  | _ => none
def zv_wI (μ : zv_M) (a j : Nat) (x : Int32) : zv_M := (μ.1, va_up μ.2.1 a (upd (μ.2.1 a) j x), μ.2.2.1, μ.2.2.2)
def zv_wL (μ : zv_M) (a j : Nat) (x : Int64) : zv_M := (μ.1, μ.2.1, va_up μ.2.2.1 a (vp_updL (μ.2.2.1 a) j x), μ.2.2.2)
def zv_wP (μ : zv_M) (a j : Nat) (x : Option Nat) : zv_M := (μ.1, μ.2.1, μ.2.2.1, va_up μ.2.2.2 a (va_up (μ.2.2.2 a) j x))
def zv_wA (μ : zv_M) (a : Nat) (f : Nat → Int32) : zv_M := (μ.1, va_up μ.2.1 a f, μ.2.2.1, μ.2.2.2)
def zv_mk (μ : zv_M) (sh : (Nat × Nat) ⊕ Nat) : zv_M := (μ.1 ++ [sh], va_up μ.2.1 μ.1.length (fun _ => 0), va_up μ.2.2.1 μ.1.length (fun _ => 0), va_up μ.2.2.2 μ.1.length (fun _ => none))
def zv_mks (sh : (Nat × Nat) ⊕ Nat) : Nat → zv_M → zv_M
  | 0, μ => μ
  | n + 1, μ => zv_mks sh n (zv_mk μ sh)
def zv_get (d : List Nat) (st : List Value) (μ : zv_M) (k : Value → List Value → Option α) : Option α := match d, st with
  | [c, j, t], .ref a :: st => zv_ob μ c a (match t with
    | 0 => k (.int (μ.2.1 a j)) st
    | 1 => k (.long (μ.2.2.1 a j)) st
    | 2 => (match μ.2.2.2 a j with
      | some p => k (.ref p) st
      | none => none)
    | 3 => k (.int (μ.2.1 a j)) st
    | _ => none)
  | [_, _, t], .retAddr i :: st => if 20 ≤ i ∧ i < 27 then (match t with
    | 8 => k (.retAddr (i + 30)) st
    | 9 => k (.int 0) st
    | _ => none) else none
  | _, _ => none
def zv_put (d : List Nat) (st : List Value) (μ : zv_M) (k : List Value → zv_M → Option α) : Option α := match d, st with
  | [c, j, t], .int x :: .ref a :: st => zv_ob μ c a (match t with
    | 0 => k st (zv_wI μ a j x)
    | 3 => if x = 0 ∨ x = 1 then k st (zv_wI μ a j x) else none
    | _ => none)
  | [c, j, t], .long x :: .ref a :: st => zv_ob μ c a (match t with
    | 1 => k st (zv_wL μ a j x)
    | _ => none)
  | [c, j, t], .ref p :: .ref a :: st => zv_ob μ c a (match t with
    | 2 => k st (zv_wP μ a j (some p))
    | _ => none)
  | _, _ => none
def zv_nar (t : Nat) (x : Int32) : Int32 := if t = 2 then vp_nar .byte x else vp_nar .boolean x
/-- an instruction that neither jumps nor calls nor returns -/
def zv_op (X : zv_X) (i : Instr) (d : List Nat) (ls : zv_L) (st : List Value) (μ : zv_M) (k : zv_L → List Value → zv_M → Option α) : Option α :=
  match i with
  | .iconst n => k ls (.int (Int32.ofInt n) :: st) μ
  | .bipush n => k ls (.int (Int8.ofInt n).toInt32 :: st) μ
  | .sipush n => k ls (.int (Int16.ofInt n).toInt32 :: st) μ
  | .lconst n => k ls (.long (Int64.ofNat n) :: st) μ
  | .ldc _ => zv_ldc d (fun v => k ls (v :: st) μ)
  | .ldc_w _ => zv_ldc d (fun v => k ls (v :: st) μ)
  | .ldc2_w _ => (match d with
    | [v] => k ls (.long (Int64.ofNat v) :: st) μ
    | _ => none)
  | .iload_n n => zv_ldi ls n (fun x => k ls (.int x :: st) μ)
  | .iload n => zv_ldi ls n (fun x => k ls (.int x :: st) μ)
  | .lload_n n => zv_ldl ls n (fun x => k ls (.long x :: st) μ)
  | .lload n => zv_ldl ls n (fun x => k ls (.long x :: st) μ)
  | .aload_n n => zv_lda ls n (fun x => k ls (x :: st) μ)
  | .aload n => zv_lda ls n (fun x => k ls (x :: st) μ)
  | .istore_n n => zv_p1i st (fun x st => zv_sto ls n (.int x) (fun ls => k ls st μ))
  | .istore n => zv_p1i st (fun x st => zv_sto ls n (.int x) (fun ls => k ls st μ))
  | .lstore_n n => zv_p1l st (fun x st => zv_sto2 ls n (.long x) (fun ls => k ls st μ))
  | .lstore n => zv_p1l st (fun x st => zv_sto2 ls n (.long x) (fun ls => k ls st μ))
  | .astore_n n => zv_p1a st (fun x st => zv_sto ls n x (fun ls => k ls st μ))
  | .astore n => zv_p1a st (fun x st => zv_sto ls n x (fun ls => k ls st μ))
  | .iinc n c => zv_ldi ls n (fun x => zv_sto ls n (.int (x + Int32.ofInt c)) (fun ls => k ls st μ))
  | .iadd => zv_p2i st (fun x y st => k ls (.int (x + y) :: st) μ)
  | .isub => zv_p2i st (fun x y st => k ls (.int (x - y) :: st) μ)
  | .imul => zv_p2i st (fun x y st => k ls (.int (x * y) :: st) μ)
  | .iand => zv_p2i st (fun x y st => k ls (.int (x &&& y) :: st) μ)
  | .ior => zv_p2i st (fun x y st => k ls (.int (x ||| y) :: st) μ)
  | .idiv => zv_p2i st (fun x y st => if y = 0 then none else k ls (.int (x / y) :: st) μ)
  | .irem => zv_p2i st (fun x y st => if y = 0 then none else k ls (.int (x - x / y * y) :: st) μ)
  | .ishl => zv_p2i st (fun x y st => k ls (.int (x <<< (y &&& 31)) :: st) μ)
  | .ishr => zv_p2i st (fun x y st => k ls (.int (x >>> (y &&& 31)) :: st) μ)
  | .ineg => zv_p1i st (fun x st => k ls (.int (-x) :: st) μ)
  | .ladd => zv_p2l st (fun x y st => k ls (.long (x + y) :: st) μ)
  | .lsub => zv_p2l st (fun x y st => k ls (.long (x - y) :: st) μ)
  | .lmul => zv_p2l st (fun x y st => k ls (.long (x * y) :: st) μ)
  | .lxor => zv_p2l st (fun x y st => k ls (.long (x ^^^ y) :: st) μ)
  | .ldiv => zv_p2l st (fun x y st => if y = 0 then none else k ls (.long (x / y) :: st) μ)
  | .lrem => zv_p2l st (fun x y st => if y = 0 then none else k ls (.long (x - x / y * y) :: st) μ)
  | .lneg => zv_p1l st (fun x st => k ls (.long (-x) :: st) μ)
  | .lcmp => zv_p2l st (fun x y st => k ls (.int (lg_cmp x y) :: st) μ)
  | .i2l => zv_p1i st (fun x st => k ls (.long x.toInt64 :: st) μ)
  | .l2i => zv_p1l st (fun x st => k ls (.int x.toInt32 :: st) μ)
  | .i2b => zv_p1i st (fun x st => k ls (.int x.toInt8.toInt32 :: st) μ)
  | .i2c => zv_p1i st (fun x st => k ls (.int (x.toUInt32 % 65536).toInt32 :: st) μ)
  | .dup => (match st with
    | v :: st => if v.category = 1 then k ls (v :: v :: st) μ else none
    | _ => none)
  | .dup2 => (match st with
    | v :: w :: st => if v.category = 1 then (if w.category = 1 then k ls (v :: w :: v :: w :: st) μ else none) else none
    | _ => none)
  | .pop => (match st with
    | v :: st => if v.category = 1 then k ls st μ else none
    | _ => none)
  | .getfield _ => zv_get d st μ (fun v st => k ls (v :: st) μ)
  | .putfield _ => zv_put d st μ (fun st μ => k ls st μ)
  | .getstatic _ => (match d with
    | [0, i] => k ls (.retAddr i :: st) μ
    | [1, v] => k ls (.int (Int32.ofNat v) :: st) μ
    | _ => none)
  | .iaload => (match st with
    | .int i :: .ref a :: st => zv_ix μ 0 a i (fun j => k ls (.int (μ.2.1 a j) :: st) μ)
    | .int i :: .retAddr o :: st => if o < 4 then zv_ox X o i (fun x => k ls (.int x :: st) μ) else none
    | _ => none)
  | .baload => (match st with
    | .int i :: .ref a :: st => (match d with
      | [t] => if t = 2 ∨ t = 3 then zv_ix μ t a i (fun j => k ls (.int (μ.2.1 a j) :: st) μ) else none
      | _ => none)
    | .int i :: .retAddr o :: st => if 50 ≤ o ∧ o < 57 then zv_ox X o i (fun x => k ls (.int x :: st) μ) else none
    | _ => none)
  | .laload => (match st with
    | .int i :: .ref a :: st => zv_ix μ 1 a i (fun j => k ls (.long (μ.2.2.1 a j) :: st) μ)
    | _ => none)
  | .aaload => (match st with
    | .int i :: .ref a :: st => zv_iq μ a i (fun j => match μ.2.2.2 a j with
      | some p => k ls (.ref p :: st) μ
      | none => none)
    | _ => none)
  | .iastore => (match st with
    | .int x :: .int i :: .ref a :: st => zv_ix μ 0 a i (fun j => k ls st (zv_wI μ a j x))
    | _ => none)
  | .bastore => (match st, d with
    | .int x :: .int i :: .ref a :: st, [t] => if t = 2 ∨ t = 3 then zv_ix μ t a i (fun j => k ls st (zv_wI μ a j (zv_nar t x))) else none
    | _, _ => none)
  | .lastore => (match st with
    | .long x :: .int i :: .ref a :: st => zv_ix μ 1 a i (fun j => k ls st (zv_wL μ a j x))
    | _ => none)
  | .aastore => (match st with
    | .ref p :: .int i :: .ref a :: st => zv_ix μ 4 a i (fun j => zv_ob μ 5 p (k ls st (zv_wP μ a j (some p))))
    | _ => none)
  | .arraylength => (match st with
    | .ref a :: st => (match μ.1[a]? with
      | some (.inl (t, n)) => if t < 7 then k ls (.int (Int32.ofNat n) :: st) μ else none
      | _ => none)
    | .retAddr o :: st => if o < 4 ∨ (50 ≤ o ∧ o < 57) then k ls (.int (Int32.ofNat (zv_old X o).1) :: st) μ else none
    | _ => none)
  | .new _ => (match d with
    | [c] => if c < 13 then k ls (.ref μ.1.length :: st) (zv_mk μ (.inr c)) else none
    | _ => none)
  | .newarray _ => (match st, d with
    | .int n :: st, [t] => if n < 0 ∨ 100000 < n.toNatClampNeg ∨ 4 ≤ t then none else k ls (.ref μ.1.length :: st) (zv_mk μ (.inl (t, n.toNatClampNeg)))
    | _, _ => none)
  | .anewarray _ => (match st with
    | .int n :: st => if n < 0 ∨ 100000 < n.toNatClampNeg then none else k ls (.ref μ.1.length :: st) (zv_mk μ (.inl (4, n.toNatClampNeg)))
    | _ => none)
  | .multianewarray _ _ => (match st, d with
    | .int k' :: .int n :: st, [ot, it] => if n < 0 ∨ k' < 0 ∨ 1000 < n.toNatClampNeg ∨ 1000 < k'.toNatClampNeg ∨ ¬ ((ot = 5 ∧ it = 0) ∨ (ot = 6 ∧ it = 1)) then none else
        k ls (.ref μ.1.length :: st) (zv_mks (.inl (it, k'.toNatClampNeg)) n.toNatClampNeg ((zv_mk μ (.inl (ot, n.toNatClampNeg))).1, (zv_mk μ (.inl (ot, n.toNatClampNeg))).2.1, (zv_mk μ (.inl (ot, n.toNatClampNeg))).2.2.1, va_up μ.2.2.2 μ.1.length (fun j => if j < n.toNatClampNeg then some (μ.1.length + 1 + j) else none)))
    | _, _ => none)
  | .checkcast _ => (match st with
    | .ref a :: st => (match μ.1[a]? with
      | some (.inl (0, _)) => k ls (.ref a :: st) μ
      | _ => none)
    | _ => none)
  | .invokestatic _ => (match st with
    | .int n :: .int dp :: .ref b :: .int sp :: .ref a :: st => (match μ.1[a]?, μ.1[b]? with
      | some (.inl (0, na)), some (.inl (0, nb)) => if sp < 0 ∨ dp < 0 ∨ n < 0 ∨ na < sp.toNatClampNeg + n.toNatClampNeg ∨ nb < dp.toNatClampNeg + n.toNatClampNeg ∨ 8 < (st.map fun v => v.category).sum then none else
          k ls st (zv_wA μ b (va_cpy (μ.2.1 a) (μ.2.1 b) sp.toNatClampNeg dp.toNatClampNeg n.toNatClampNeg))
      | _, _ => none)
    | _ => none)
  | .invokevirtual _ => (match st with
    | .retAddr 1 :: st => if 8 < (st.map fun v => v.category).sum then none else k ls (.ref μ.1.length :: st) (zv_wA (zv_mk μ (.inl (0, 8))) μ.1.length (zv_old X 1).2)
    | _ => none)
  | .invokespecial _ => (match st with
    | .ref _ :: st => if 8 < (st.map fun v => v.category).sum then none else k ls st μ
    | _ => none)
  | _ => none
end ZVM
end
section
/-! THE PROGRAM: by a program of mine out of the printed names: blocks of (place, instruction, resolved numbers) -/
def zv_b0 : List (Nat × List Bool × List zv_I) := [
  (0, [true], [(0, .aload_n 0, []), (1, .invokespecial 3, [1002]), (4, .aload_n 0, []), (5, .bipush 20, []), (7, .newarray .int, [0]), (9, .putfield 9, [0, 0, 2]), (12, .aload_n 0, []), (13, .bipush 20, []), (15, .newarray .int, [0]), (17, .putfield 15, [0, 1, 2]), (20, .return_, [])])]
def zv_b1 : List (Nat × List Bool × List zv_I) := [
  (0, [true, true], [(0, .aload_n 1, []), (1, .getfield 9, [0, 0, 2]), (4, .iconst 0, []), (5, .aload_n 0, []), (6, .getfield 9, [0, 0, 2]), (9, .iconst 0, []), (10, .bipush 20, []), (12, .invokestatic 18, [1000]), (15, .aload_n 1, []), (16, .getfield 15, [0, 1, 2]), (19, .iconst 0, []), (20, .aload_n 0, []), (21, .getfield 15, [0, 1, 2]), (24, .iconst 0, []), (25, .bipush 20, []), (27, .invokestatic 18, [1000]), (30, .aload_n 0, []), (31, .aload_n 1, []), (32, .getfield 24, [0, 2, 0]), (35, .putfield 24, [0, 2, 0]), (38, .aload_n 0, []), (39, .aload_n 1, []), (40, .getfield 28, [0, 3, 0]), (43, .putfield 28, [0, 3, 0]), (46, .return_, [])])]
def zv_b2 : List (Nat × List Bool × List zv_I) := [
  (0, [true], [(0, .aload_n 0, []), (1, .iconst 0, []), (2, .putfield 24, [0, 2, 0]), (5, .aload_n 0, []), (6, .iconst 0, []), (7, .putfield 28, [0, 3, 0]), (10, .return_, [])])]
def zv_b3 : List (Nat × List Bool × List zv_I) := [
  (0, [true, true, true], [(0, .aload_n 0, []), (1, .getfield 24, [0, 2, 0]), (4, .bipush 20, []), (6, .if_icmp .lt 39, [45]), (9, .aload_n 0, []), (10, .getfield 9, [0, 0, 2]), (13, .iconst 1, []), (14, .aload_n 0, []), (15, .getfield 9, [0, 0, 2]), (18, .iconst 0, []), (19, .bipush 19, []), (21, .invokestatic 18, [1000]), (24, .aload_n 0, []), (25, .getfield 15, [0, 1, 2]), (28, .iconst 1, []), (29, .aload_n 0, []), (30, .getfield 15, [0, 1, 2]), (33, .iconst 0, []), (34, .bipush 19, []), (36, .invokestatic 18, [1000]), (39, .aload_n 0, []), (40, .bipush 19, []), (42, .putfield 24, [0, 2, 0]), (45, .nop, [45])]),
  (45, [true, true, true], [(45, .aload_n 0, []), (46, .getfield 9, [0, 0, 2]), (49, .aload_n 0, []), (50, .getfield 24, [0, 2, 0]), (53, .iload_n 1, []), (54, .iastore, []), (55, .aload_n 0, []), (56, .getfield 15, [0, 1, 2]), (59, .aload_n 0, []), (60, .getfield 24, [0, 2, 0]), (63, .iload_n 2, []), (64, .iastore, []), (65, .aload_n 0, []), (66, .dup, []), (67, .getfield 24, [0, 2, 0]), (70, .iconst 1, []), (71, .iadd, []), (72, .putfield 24, [0, 2, 0]), (75, .aload_n 0, []), (76, .iconst 0, []), (77, .putfield 28, [0, 3, 0]), (80, .return_, [])])]
def zv_b4 : List (Nat × List Bool × List zv_I) := [
  (0, [true, true], [(0, .iload_n 1, []), (1, .ifCond .eq 37, [38]), (4, .aload_n 0, []), (5, .getfield 24, [0, 2, 0]), (8, .ifCond .ne 5, [13]), (11, .iconst (-1), []), (12, .ireturn, [])]),
  (13, [true, false], [(13, .aload_n 0, []), (14, .dup, []), (15, .getfield 24, [0, 2, 0]), (18, .iconst 1, []), (19, .isub, []), (20, .putfield 24, [0, 2, 0]), (23, .aload_n 0, []), (24, .dup, []), (25, .getfield 28, [0, 3, 0]), (28, .iconst 1, []), (29, .iadd, []), (30, .putfield 28, [0, 3, 0]), (33, .aload_n 0, []), (34, .getfield 24, [0, 2, 0]), (37, .ireturn, [])]),
  (38, [true, false], [(38, .aload_n 0, []), (39, .getfield 28, [0, 3, 0]), (42, .ifCond .ne 5, [47]), (45, .iconst (-1), []), (46, .ireturn, [])]),
  (47, [true, false], [(47, .aload_n 0, []), (48, .dup, []), (49, .getfield 28, [0, 3, 0]), (52, .iconst 1, []), (53, .isub, []), (54, .putfield 28, [0, 3, 0]), (57, .aload_n 0, []), (58, .dup, []), (59, .getfield 24, [0, 2, 0]), (62, .iconst 1, []), (63, .iadd, []), (64, .putfield 24, [0, 2, 0]), (67, .aload_n 0, []), (68, .getfield 24, [0, 2, 0]), (71, .iconst 1, []), (72, .isub, []), (73, .ireturn, [])])]
def zv_b5 : List (Nat × List Bool × List zv_I) := [
  (0, [true, false], [(0, .aload_n 0, []), (1, .invokespecial 3, [1002]), (4, .aload_n 0, []), (5, .bipush 10, []), (7, .anewarray 9, [4]), (10, .putfield 11, [1, 0, 2]), (13, .aload_n 0, []), (14, .new 17, [2]), (17, .dup, []), (18, .invokespecial 19, [13, 0, 0]), (21, .putfield 20, [1, 1, 2]), (24, .iconst 0, []), (25, .istore_n 1, []), (26, .nop, [26])]),
  (26, [true, true], [(26, .iload_n 1, []), (27, .bipush 10, []), (29, .if_icmp .ge 29, [58]), (32, .aload_n 0, []), (33, .getfield 11, [1, 0, 2]), (36, .iload_n 1, []), (37, .new 9, [5]), (40, .dup, []), (41, .sipush 300, []), (44, .iload_n 1, []), (45, .ishr, []), (46, .iconst 2, []), (47, .iadd, []), (48, .invokespecial 24, [28, 1, 0]), (51, .aastore, []), (52, .iinc 1 1, []), (55, .goto (-29), [26])]),
  (58, [false, false], [(58, .return_, [])])]
def zv_b6 : List (Nat × List Bool × List zv_I) := [
  (0, [true, true, true, true, true], [(0, .aload_n 0, []), (1, .getfield 11, [1, 0, 2]), (4, .iconst 0, []), (5, .aaload, []), (6, .aload_n 1, []), (7, .iload_n 2, []), (8, .invokevirtual 27, [29, 2, 0]), (11, .aload_n 0, []), (12, .getfield 11, [1, 0, 2]), (15, .iconst 0, []), (16, .aaload, []), (17, .aload_n 0, []), (18, .getfield 20, [1, 1, 2]), (21, .iload_n 3, []), (22, .invokevirtual 31, [31, 2, 0]), (25, .aload_n 0, []), (26, .aload_n 0, []), (27, .getfield 11, [1, 0, 2]), (30, .iconst 0, []), (31, .aaload, []), (32, .getfield 35, [5, 1, 0]), (35, .ifCond .le 7, [42]), (38, .iconst 1, []), (39, .goto 4, [43])]),
  (42, [true, false, false, false, true], [(42, .iconst 0, []), (43, .nop, [43])]),
  (43, [true, false, false, false, true], [(43, .putfield 39, [1, 2, 0]), (46, .nop, [46])]),
  (46, [true, false, false, false, true], [(46, .aload_n 0, []), (47, .getfield 39, [1, 2, 0]), (50, .ifCond .le 84, [134]), (53, .aload_n 0, []), (54, .getfield 39, [1, 2, 0]), (57, .bipush 10, []), (59, .if_icmp .ge 75, [134]), (62, .aload_n 0, []), (63, .getfield 11, [1, 0, 2]), (66, .aload_n 0, []), (67, .getfield 39, [1, 2, 0]), (70, .iconst 1, []), (71, .isub, []), (72, .aaload, []), (73, .getfield 42, [5, 3, 0]), (76, .iconst 1, []), (77, .if_icmp .le 57, [134]), (80, .aload_n 0, []), (81, .getfield 11, [1, 0, 2]), (84, .aload_n 0, []), (85, .getfield 39, [1, 2, 0]), (88, .aaload, []), (89, .aload_n 0, []), (90, .getfield 11, [1, 0, 2]), (93, .aload_n 0, []), (94, .getfield 39, [1, 2, 0]), (97, .iconst 1, []), (98, .isub, []), (99, .aaload, []), (100, .invokevirtual 45, [30, 1, 0]), (103, .aload_n 0, []), (104, .getfield 11, [1, 0, 2]), (107, .aload_n 0, []), (108, .getfield 39, [1, 2, 0]), (111, .aaload, []), (112, .aload_n 0, []), (113, .getfield 20, [1, 1, 2]), (116, .iload 4, []), (118, .invokevirtual 31, [31, 2, 0]), (121, .aload_n 0, []), (122, .dup, []), (123, .getfield 39, [1, 2, 0]), (126, .iconst 1, []), (127, .iadd, []), (128, .putfield 39, [1, 2, 0]), (131, .goto (-85), [46])]),
  (134, [false, false, false, false, false], [(134, .return_, [])])]
def zv_b7 : List (Nat × List Bool × List zv_I) := [
  (0, [true, true, false, false, false, false, false, false, false], [(0, .aload_n 0, []), (1, .iconst 0, []), (2, .putfield 49, [1, 3, 0]), (5, .iconst 0, []), (6, .istore_n 2, []), (7, .aload_n 0, []), (8, .getfield 39, [1, 2, 0]), (11, .iconst 1, []), (12, .isub, []), (13, .istore_n 3, []), (14, .nop, [14])]),
  (14, [true, true, true, true, false, false, false, false, false], [(14, .iload_n 3, []), (15, .ifCond .lt 118, [133]), (18, .aload_n 0, []), (19, .getfield 11, [1, 0, 2]), (22, .iload_n 3, []), (23, .aaload, []), (24, .astore 4, []), (26, .aload 4, []), (28, .iload_n 2, []), (29, .iload_n 1, []), (30, .invokevirtual 52, [36, 2, 1]), (33, .istore 5, []), (35, .iconst 0, []), (36, .iload 5, []), (38, .aload 4, []), (40, .getfield 56, [5, 2, 0]), (43, .isub, []), (44, .iconst 1, []), (45, .isub, []), (46, .invokestatic 59, [197, 2, 1]), (49, .istore 6, []), (51, .aload 4, []), (53, .getfield 35, [5, 1, 0]), (56, .iload 5, []), (58, .aload 4, []), (60, .getfield 56, [5, 2, 0]), (63, .iadd, []), (64, .iconst 2, []), (65, .iadd, []), (66, .invokestatic 64, [199, 2, 1]), (69, .istore 7, []), (71, .iload_n 3, []), (72, .ifCond .ne 18, [90]), (75, .aload_n 0, []), (76, .aload 4, []), (78, .getfield 67, [5, 0, 2]), (81, .iload 6, []), (83, .iload 7, []), (85, .iload_n 1, []), (86, .invokevirtual 71, [9, 4, 1]), (89, .ireturn, [])]),
  (90, [true, true, false, true, true, false, true, true, false], [(90, .iload_n 1, []), (91, .ldc 77, [0, 2147483647]), (93, .if_icmp .ge 9, [102]), (96, .iload_n 1, []), (97, .iconst 1, []), (98, .iadd, []), (99, .goto 4, [103])]),
  (102, [true, true, false, true, true, false, true, true, false], [(102, .iload_n 1, []), (103, .nop, [103])]),
  (103, [true, true, false, true, true, false, true, true, false], [(103, .istore 8, []), (105, .iconst 0, []), (106, .aload_n 0, []), (107, .aload 4, []), (109, .getfield 67, [5, 0, 2]), (112, .iload 6, []), (114, .iload 7, []), (116, .iload 8, []), (118, .invokevirtual 71, [9, 4, 1]), (121, .iconst 1, []), (122, .isub, []), (123, .invokestatic 59, [197, 2, 1]), (126, .istore_n 2, []), (127, .iinc 3 (-1), []), (130, .goto (-116), [14])]),
  (133, [false, false, true, false, false, false, false, false, false], [(133, .iload_n 2, []), (134, .ireturn, [])])]
def zv_b8 : List (Nat × List Bool × List zv_I) := [
  (0, [true, true], [(0, .aload_n 0, []), (1, .iconst 0, []), (2, .putfield 49, [1, 3, 0]), (5, .aload_n 0, []), (6, .aload_n 0, []), (7, .getfield 11, [1, 0, 2]), (10, .iconst 0, []), (11, .aaload, []), (12, .getfield 67, [5, 0, 2]), (15, .iconst 0, []), (16, .aload_n 0, []), (17, .getfield 11, [1, 0, 2]), (20, .iconst 0, []), (21, .aaload, []), (22, .getfield 35, [5, 1, 0]), (25, .iload_n 1, []), (26, .invokevirtual 71, [9, 4, 1]), (29, .ireturn, [])])]
def zv_b9 : List (Nat × List Bool × List zv_I) := [
  (0, [true, true, true, true, true, false, false, false, false], [(0, .iload_n 2, []), (1, .istore 5, []), (3, .iload_n 3, []), (4, .aload_n 1, []), (5, .arraylength, []), (6, .invokestatic 64, [199, 2, 1]), (9, .istore 6, []), (11, .iconst 0, []), (12, .istore 7, []), (14, .nop, [14])]),
  (14, [true, true, false, false, true, true, true, true, false], [(14, .iload 7, []), (16, .bipush 32, []), (18, .if_icmp .ge 57, [75]), (21, .iload 5, []), (23, .iload 6, []), (25, .if_icmp .ge 50, [75]), (28, .iload 5, []), (30, .iload 6, []), (32, .iadd, []), (33, .iconst 2, []), (34, .idiv, []), (35, .istore 8, []), (37, .aload_n 0, []), (38, .dup, []), (39, .getfield 49, [1, 3, 0]), (42, .iconst 1, []), (43, .iadd, []), (44, .putfield 49, [1, 3, 0]), (47, .aload_n 1, []), (48, .iload 8, []), (50, .iaload, []), (51, .iload 4, []), (53, .if_icmp .ge 12, [65]), (56, .iload 8, []), (58, .iconst 1, []), (59, .iadd, []), (60, .istore 5, []), (62, .goto 7, [69])]),
  (65, [true, true, false, false, true, true, false, true, true], [(65, .iload 8, []), (67, .istore 6, []), (69, .nop, [69])]),
  (69, [true, true, false, false, true, true, true, true, false], [(69, .iinc 7 1, []), (72, .goto (-58), [14])]),
  (75, [false, false, false, false, false, true, false, false, false], [(75, .iload 5, []), (77, .ireturn, [])])]
def zv_b10 : List (Nat × List Bool × List zv_I) := [
  (0, [true, false, false], [(0, .iconst 0, []), (1, .istore_n 1, []), (2, .iconst 0, []), (3, .istore_n 2, []), (4, .nop, [4])]),
  (4, [true, true, true], [(4, .iload_n 2, []), (5, .aload_n 0, []), (6, .getfield 11, [1, 0, 2]), (9, .iconst 0, []), (10, .aaload, []), (11, .getfield 35, [5, 1, 0]), (14, .if_icmp .ge 32, [46]), (17, .aload_n 0, []), (18, .aload_n 0, []), (19, .getfield 11, [1, 0, 2]), (22, .iconst 0, []), (23, .aaload, []), (24, .getfield 67, [5, 0, 2]), (27, .iload_n 2, []), (28, .iaload, []), (29, .invokevirtual 78, [7, 1, 1]), (32, .pop, []), (33, .iload_n 1, []), (34, .aload_n 0, []), (35, .getfield 49, [1, 3, 0]), (38, .iadd, []), (39, .istore_n 1, []), (40, .iinc 2 1, []), (43, .goto (-39), [4])]),
  (46, [false, true, false], [(46, .iload_n 1, []), (47, .ireturn, [])])]
def zv_b11 : List (Nat × List Bool × List zv_I) := [
  (0, [true, false, false], [(0, .iconst 0, []), (1, .istore_n 1, []), (2, .iconst 0, []), (3, .istore_n 2, []), (4, .nop, [4])]),
  (4, [true, true, true], [(4, .iload_n 2, []), (5, .aload_n 0, []), (6, .getfield 39, [1, 2, 0]), (9, .if_icmp .ge 21, [30]), (12, .iload_n 1, []), (13, .aload_n 0, []), (14, .getfield 11, [1, 0, 2]), (17, .iload_n 2, []), (18, .aaload, []), (19, .getfield 42, [5, 3, 0]), (22, .iadd, []), (23, .istore_n 1, []), (24, .iinc 2 1, []), (27, .goto (-23), [4])]),
  (30, [false, true, false], [(30, .iload_n 1, []), (31, .ireturn, [])])]
def zv_b12 : List (Nat × List Bool × List zv_I) := [
  (0, [true, true, false, false, false, false, false, false, false, false], [(0, .aload_n 0, []), (1, .getfield 11, [1, 0, 2]), (4, .iconst 0, []), (5, .aaload, []), (6, .astore_n 2, []), (7, .iconst 1, []), (8, .iload_n 1, []), (9, .invokestatic 59, [197, 2, 1]), (12, .istore_n 3, []), (13, .iconst 0, []), (14, .istore 4, []), (16, .iconst 0, []), (17, .istore 5, []), (19, .nop, [19])]),
  (19, [true, false, true, true, true, true, false, false, false, false], [(19, .iload 5, []), (21, .aload_n 2, []), (22, .getfield 42, [5, 3, 0]), (25, .if_icmp .ge 102, [127]), (28, .aload_n 2, []), (29, .getfield 82, [5, 4, 2]), (32, .iload 5, []), (34, .iaload, []), (35, .istore 6, []), (37, .nop, [37])]),
  (37, [true, false, true, true, true, true, true, false, false, false], [(37, .iload 6, []), (39, .aload_n 2, []), (40, .iload 5, []), (42, .invokevirtual 85, [34, 1, 1]), (45, .if_icmp .gt 76, [121]), (48, .aload_n 2, []), (49, .iload 5, []), (51, .aload_n 2, []), (52, .getfield 67, [5, 0, 2]), (55, .iload 6, []), (57, .iaload, []), (58, .invokevirtual 52, [36, 2, 1]), (61, .istore 7, []), (63, .iconst 0, []), (64, .iload 7, []), (66, .aload_n 2, []), (67, .getfield 56, [5, 2, 0]), (70, .isub, []), (71, .invokestatic 59, [197, 2, 1]), (74, .iload_n 3, []), (75, .idiv, []), (76, .istore 8, []), (78, .aload_n 2, []), (79, .getfield 35, [5, 1, 0]), (82, .iconst 1, []), (83, .isub, []), (84, .iload 7, []), (86, .aload_n 2, []), (87, .getfield 56, [5, 2, 0]), (90, .iadd, []), (91, .invokestatic 64, [199, 2, 1]), (94, .iload_n 3, []), (95, .idiv, []), (96, .istore 9, []), (98, .iload 4, []), (100, .iload 9, []), (102, .iload 8, []), (104, .isub, []), (105, .iconst 1, []), (106, .iadd, []), (107, .aload_n 0, []), (108, .getfield 39, [1, 2, 0]), (111, .iadd, []), (112, .iadd, []), (113, .istore 4, []), (115, .iinc 6 1, []), (118, .goto (-81), [37])]),
  (121, [true, false, true, true, true, true, false, false, false, false], [(121, .iinc 5 1, []), (124, .goto (-105), [19])]),
  (127, [false, false, false, false, true, false, false, false, false, false], [(127, .iload 4, []), (129, .ireturn, [])])]
def zv_b13 : List (Nat × List Bool × List zv_I) := [
  (0, [true], [(0, .aload_n 0, []), (1, .invokespecial 1, [1002]), (4, .aload_n 0, []), (5, .new 7, [7]), (8, .dup, []), (9, .invokespecial 9, [45, 0, 0]), (12, .putfield 10, [2, 0, 2]), (15, .aload_n 0, []), (16, .new 7, [7]), (19, .dup, []), (20, .invokespecial 9, [45, 0, 0]), (23, .putfield 16, [2, 1, 2]), (26, .return_, [])])]
def zv_b14 : List (Nat × List Bool × List zv_I) := [
  (0, [true, true, true, true, true, false, false, false, false, false], [(0, .aload_n 0, []), (1, .getfield 10, [2, 0, 2]), (4, .lconst 0, []), (5, .lconst 1, []), (6, .invokevirtual 19, [46, 2, 0]), (9, .aload_n 0, []), (10, .getfield 16, [2, 1, 2]), (13, .lconst 0, []), (14, .lconst 0, []), (15, .invokevirtual 19, [46, 2, 0]), (18, .iload_n 3, []), (19, .aload_n 1, []), (20, .arraylength, []), (21, .invokestatic 23, [199, 2, 1]), (24, .istore 5, []), (26, .iload_n 2, []), (27, .istore 6, []), (29, .iconst 0, []), (30, .iload_n 2, []), (31, .invokestatic 29, [197, 2, 1]), (34, .istore 7, []), (36, .nop, [36])]),
  (36, [true, true, true, false, true, true, true, true, false, false], [(36, .iload 7, []), (38, .iload 5, []), (40, .if_icmp .ge 156, [196]), (43, .aload_n 1, []), (44, .iload 7, []), (46, .iaload, []), (47, .istore 8, []), (49, .iload 7, []), (51, .iload_n 2, []), (52, .isub, []), (53, .istore 9, []), (55, .aload_n 0, []), (56, .getfield 10, [2, 0, 2]), (59, .iload 8, []), (61, .iload 9, []), (63, .iload 4, []), (65, .isub, []), (66, .invokevirtual 32, [47, 2, 0]), (69, .aload_n 0, []), (70, .getfield 10, [2, 0, 2]), (73, .iload 8, []), (75, .iload 9, []), (77, .iload 4, []), (79, .iadd, []), (80, .invokevirtual 36, [48, 2, 0]), (83, .aload_n 0, []), (84, .getfield 16, [2, 1, 2]), (87, .iload 8, []), (89, .iload 9, []), (91, .ineg, []), (92, .iload 4, []), (94, .isub, []), (95, .invokevirtual 32, [47, 2, 0]), (98, .aload_n 0, []), (99, .getfield 16, [2, 1, 2]), (102, .iload 8, []), (104, .iload 9, []), (106, .ineg, []), (107, .iload 4, []), (109, .iadd, []), (110, .invokevirtual 36, [48, 2, 0]), (113, .aload_n 0, []), (114, .getfield 16, [2, 1, 2]), (117, .getfield 39, [7, 5, 1]), (120, .lconst 0, []), (121, .lcmp, []), (122, .ifCond .le 42, [164]), (125, .aload_n 0, []), (126, .getfield 10, [2, 0, 2]), (129, .getfield 43, [7, 4, 1]), (132, .aload_n 0, []), (133, .getfield 16, [2, 1, 2]), (136, .getfield 39, [7, 5, 1]), (139, .lmul, []), (140, .aload_n 0, []), (141, .getfield 16, [2, 1, 2]), (144, .getfield 43, [7, 4, 1]), (147, .aload_n 0, []), (148, .getfield 10, [2, 0, 2]), (151, .getfield 39, [7, 5, 1]), (154, .lmul, []), (155, .ladd, []), (156, .lconst 0, []), (157, .lcmp, []), (158, .ifCond .le 6, [164]), (161, .goto 35, [196])]),
  (164, [true, true, true, false, true, true, false, true, false, false], [(164, .iload 7, []), (166, .istore 6, []), (168, .aload_n 0, []), (169, .aload_n 0, []), (170, .getfield 10, [2, 0, 2]), (173, .getfield 43, [7, 4, 1]), (176, .putfield 46, [2, 2, 1]), (179, .aload_n 0, []), (180, .aload_n 0, []), (181, .getfield 10, [2, 0, 2]), (184, .getfield 39, [7, 5, 1]), (187, .putfield 47, [2, 3, 1]), (190, .iinc 7 1, []), (193, .goto (-157), [36])]),
  (196, [false, false, false, false, false, false, true, false, false, false], [(196, .iload 6, []), (198, .ireturn, [])])]
def zv_b15 : List (Nat × List Bool × List zv_I) := [
  (0, [true], [(0, .aload_n 0, []), (1, .invokespecial 3, [1002]), (4, .aload_n 0, []), (5, .bipush 64, []), (7, .newarray .int, [0]), (9, .putfield 9, [3, 0, 2]), (12, .aload_n 0, []), (13, .getfield 9, [3, 0, 2]), (16, .ldc 15, [0, 3294967295]), (18, .invokestatic 16, [207, 2, 0]), (21, .return_, [])])]
def zv_b16 : List (Nat × List Bool × List zv_I) := [
  (0, [true, true, false, false], [(0, .aload_n 0, []), (1, .getfield 9, [3, 0, 2]), (4, .ldc 15, [0, 3294967295]), (6, .invokestatic 16, [207, 2, 0]), (9, .bipush 48, []), (11, .aload_n 1, []), (12, .getfield 22, [4, 2, 0]), (15, .invokestatic 28, [199, 2, 1]), (18, .istore_n 2, []), (19, .iconst 0, []), (20, .istore_n 3, []), (21, .nop, [21])]),
  (21, [true, true, true, true], [(21, .iload_n 3, []), (22, .iload_n 2, []), (23, .if_icmp .ge 26, [49]), (26, .aload_n 0, []), (27, .getfield 9, [3, 0, 2]), (30, .bipush 64, []), (32, .iload_n 3, []), (33, .imul, []), (34, .iload_n 2, []), (35, .idiv, []), (36, .aload_n 1, []), (37, .getfield 34, [4, 0, 2]), (40, .iload_n 3, []), (41, .iaload, []), (42, .iastore, []), (43, .iinc 3 1, []), (46, .goto (-25), [21])]),
  (49, [false, false, true, false], [(49, .iload_n 2, []), (50, .ireturn, [])])]
def zv_b17 : List (Nat × List Bool × List zv_I) := [
  (0, [true, true, false, false, false], [(0, .iconst (-1), []), (1, .istore_n 2, []), (2, .bipush 64, []), (4, .istore_n 3, []), (5, .bipush 63, []), (7, .istore 4, []), (9, .nop, [9])]),
  (9, [true, true, true, true, true], [(9, .iload 4, []), (11, .ifCond .lt 70, [81]), (14, .aload_n 0, []), (15, .getfield 9, [3, 0, 2]), (18, .iload 4, []), (20, .iaload, []), (21, .iload_n 1, []), (22, .if_icmp .ne 5, [27]), (25, .iconst (-1), []), (26, .ireturn, [])]),
  (27, [true, true, true, true, true], [(27, .aload_n 0, []), (28, .getfield 9, [3, 0, 2]), (31, .iload 4, []), (33, .iaload, []), (34, .ldc 15, [0, 3294967295]), (36, .if_icmp .eq 20, [56]), (39, .aload_n 0, []), (40, .getfield 9, [3, 0, 2]), (43, .iload 4, []), (45, .iaload, []), (46, .iload_n 1, []), (47, .if_icmp .le 9, [56]), (50, .iload 4, []), (52, .istore_n 3, []), (53, .goto 22, [75])]),
  (56, [true, true, true, true, true], [(56, .aload_n 0, []), (57, .getfield 9, [3, 0, 2]), (60, .iload 4, []), (62, .iaload, []), (63, .ldc 15, [0, 3294967295]), (65, .if_icmp .eq 10, [75]), (68, .iload_n 2, []), (69, .iload 4, []), (71, .invokestatic 37, [197, 2, 1]), (74, .istore_n 2, []), (75, .nop, [75])]),
  (75, [true, true, true, true, true], [(75, .iinc 4 (-1), []), (78, .goto (-69), [9])]),
  (81, [true, true, true, true, false], [(81, .iload_n 3, []), (82, .iload_n 2, []), (83, .isub, []), (84, .iconst 1, []), (85, .if_icmp .le 16, [101]), (88, .aload_n 0, []), (89, .getfield 9, [3, 0, 2]), (92, .iload_n 2, []), (93, .iload_n 3, []), (94, .iadd, []), (95, .iconst 2, []), (96, .idiv, []), (97, .iload_n 1, []), (98, .iastore, []), (99, .iconst 0, []), (100, .ireturn, [])]),
  (101, [true, true, true, true, false], [(101, .aload_n 0, []), (102, .iload_n 2, []), (103, .iload_n 3, []), (104, .iload_n 1, []), (105, .invokevirtual 40, [18, 3, 1]), (108, .ireturn, [])])]
def zv_b18 : List (Nat × List Bool × List zv_I) := [
  (0, [true, true, true, true, false, false, false, false], [(0, .iload_n 1, []), (1, .iconst 1, []), (2, .isub, []), (3, .istore 4, []), (5, .nop, [5])]),
  (5, [true, true, true, true, true, false, false, false], [(5, .iload 4, []), (7, .ifCond .lt 21, [28]), (10, .aload_n 0, []), (11, .getfield 9, [3, 0, 2]), (14, .iload 4, []), (16, .iaload, []), (17, .ldc 15, [0, 3294967295]), (19, .if_icmp .eq 9, [28]), (22, .iinc 4 (-1), []), (25, .goto (-20), [5])]),
  (28, [true, true, true, true, true, false, false, false], [(28, .iload_n 2, []), (29, .iconst 1, []), (30, .iadd, []), (31, .istore 5, []), (33, .nop, [33])]),
  (33, [true, true, true, true, true, true, false, false], [(33, .iload 5, []), (35, .bipush 64, []), (37, .if_icmp .ge 21, [58]), (40, .aload_n 0, []), (41, .getfield 9, [3, 0, 2]), (44, .iload 5, []), (46, .iaload, []), (47, .ldc 15, [0, 3294967295]), (49, .if_icmp .eq 9, [58]), (52, .iinc 5 1, []), (55, .goto (-22), [33])]),
  (58, [true, true, true, true, true, true, false, false], [(58, .iload 4, []), (60, .ifCond .lt 7, [67]), (63, .iconst 1, []), (64, .goto 4, [68])]),
  (67, [true, true, true, true, true, true, false, false], [(67, .iconst 0, []), (68, .nop, [68])]),
  (68, [true, true, true, true, true, true, false, false], [(68, .istore 6, []), (70, .iload 5, []), (72, .bipush 64, []), (74, .if_icmp .ge 7, [81]), (77, .iconst 1, []), (78, .goto 4, [82])]),
  (81, [true, true, true, true, true, true, true, false], [(81, .iconst 0, []), (82, .nop, [82])]),
  (82, [true, true, true, true, true, true, true, false], [(82, .istore 7, []), (84, .iload 6, []), (86, .ifCond .eq 52, [138]), (89, .iload 7, []), (91, .ifCond .eq 14, [105]), (94, .iload_n 1, []), (95, .iload 4, []), (97, .isub, []), (98, .iload 5, []), (100, .iload_n 2, []), (101, .isub, []), (102, .if_icmp .gt 36, [138]), (105, .nop, [105])]),
  (105, [true, true, false, true, true, false, false, false], [(105, .aload_n 0, []), (106, .getfield 9, [3, 0, 2]), (109, .iload 4, []), (111, .iconst 1, []), (112, .iadd, []), (113, .aload_n 0, []), (114, .getfield 9, [3, 0, 2]), (117, .iload 4, []), (119, .iload_n 1, []), (120, .iload 4, []), (122, .isub, []), (123, .invokestatic 44, [1000]), (126, .aload_n 0, []), (127, .getfield 9, [3, 0, 2]), (130, .iload_n 1, []), (131, .iload_n 3, []), (132, .iastore, []), (133, .iload_n 1, []), (134, .iload 4, []), (136, .isub, []), (137, .ireturn, [])]),
  (138, [true, false, true, true, false, true, false, true], [(138, .iload 7, []), (140, .ifCond .eq 34, [174]), (143, .aload_n 0, []), (144, .getfield 9, [3, 0, 2]), (147, .iload_n 2, []), (148, .aload_n 0, []), (149, .getfield 9, [3, 0, 2]), (152, .iload_n 2, []), (153, .iconst 1, []), (154, .iadd, []), (155, .iload 5, []), (157, .iload_n 2, []), (158, .isub, []), (159, .invokestatic 44, [1000]), (162, .aload_n 0, []), (163, .getfield 9, [3, 0, 2]), (166, .iload_n 2, []), (167, .iload_n 3, []), (168, .iastore, []), (169, .iload 5, []), (171, .iload_n 2, []), (172, .isub, []), (173, .ireturn, [])]),
  (174, [false, false, false, false, false, false, false, false], [(174, .iconst (-1), []), (175, .ireturn, [])])]
def zv_b19 : List (Nat × List Bool × List zv_I) := [
  (0, [true], [(0, .aload_n 0, []), (1, .invokespecial 3, [1002]), (4, .aload_n 0, []), (5, .sipush 300, []), (8, .newarray .int, [0]), (10, .putfield 9, [4, 0, 2]), (13, .aload_n 0, []), (14, .sipush 300, []), (17, .newarray .int, [0]), (19, .putfield 15, [4, 1, 2]), (22, .return_, [])])]
def zv_b20 : List (Nat × List Bool × List zv_I) := [
  (0, [true, true], [(0, .aload_n 1, []), (1, .getfield 9, [4, 0, 2]), (4, .iconst 0, []), (5, .aload_n 0, []), (6, .getfield 9, [4, 0, 2]), (9, .iconst 0, []), (10, .aload_n 1, []), (11, .getfield 18, [4, 2, 0]), (14, .invokestatic 22, [1000]), (17, .aload_n 1, []), (18, .getfield 15, [4, 1, 2]), (21, .iconst 0, []), (22, .aload_n 0, []), (23, .getfield 15, [4, 1, 2]), (26, .iconst 0, []), (27, .aload_n 1, []), (28, .getfield 18, [4, 2, 0]), (31, .invokestatic 22, [1000]), (34, .aload_n 0, []), (35, .aload_n 1, []), (36, .getfield 18, [4, 2, 0]), (39, .putfield 18, [4, 2, 0]), (42, .return_, [])])]
def zv_b21 : List (Nat × List Bool × List zv_I) := [
  (0, [true, true], [(0, .aload_n 0, []), (1, .getfield 9, [4, 0, 2]), (4, .aload_n 0, []), (5, .getfield 18, [4, 2, 0]), (8, .iload_n 1, []), (9, .invokestatic 28, [119, 3, 1]), (12, .ireturn, [])])]
def zv_b22 : List (Nat × List Bool × List zv_I) := [
  (0, [true, true, false], [(0, .aload_n 0, []), (1, .getfield 9, [4, 0, 2]), (4, .aload_n 0, []), (5, .getfield 18, [4, 2, 0]), (8, .iload_n 1, []), (9, .invokestatic 28, [119, 3, 1]), (12, .istore_n 2, []), (13, .iload_n 2, []), (14, .aload_n 0, []), (15, .getfield 18, [4, 2, 0]), (18, .if_icmp .ge 22, [40]), (21, .aload_n 0, []), (22, .getfield 9, [4, 0, 2]), (25, .iload_n 2, []), (26, .iaload, []), (27, .iload_n 1, []), (28, .if_icmp .ne 12, [40]), (31, .aload_n 0, []), (32, .getfield 15, [4, 1, 2]), (35, .iload_n 2, []), (36, .iaload, []), (37, .goto 4, [41])]),
  (40, [false, false, false], [(40, .iconst 0, []), (41, .nop, [41])]),
  (41, [false, false, false], [(41, .ireturn, [])])]
def zv_b23 : List (Nat × List Bool × List zv_I) := [
  (0, [true, true], [(0, .aload_n 0, []), (1, .iload_n 1, []), (2, .invokevirtual 32, [22, 1, 1]), (5, .ifCond .le 7, [12]), (8, .iconst 1, []), (9, .goto 4, [13])]),
  (12, [false, false], [(12, .iconst 0, []), (13, .nop, [13])]),
  (13, [false, false], [(13, .ireturn, [])])]
def zv_b24 : List (Nat × List Bool × List zv_I) := [
  (0, [true, true, true, false], [(0, .aload_n 0, []), (1, .iload_n 1, []), (2, .invokevirtual 32, [22, 1, 1]), (5, .istore_n 3, []), (6, .iload_n 3, []), (7, .iload_n 2, []), (8, .iadd, []), (9, .bipush 99, []), (11, .if_icmp .gt 21, [32]), (14, .iload_n 3, []), (15, .ifCond .gt 13, [28]), (18, .aload_n 0, []), (19, .getfield 18, [4, 2, 0]), (22, .sipush 300, []), (25, .if_icmp .ge 7, [32]), (28, .nop, [28])]),
  (28, [false, false, false, false], [(28, .iconst 1, []), (29, .goto 4, [33])]),
  (32, [false, false, false, false], [(32, .iconst 0, []), (33, .nop, [33])]),
  (33, [false, false, false, false], [(33, .ireturn, [])])]
def zv_b25 : List (Nat × List Bool × List zv_I) := [
  (0, [true, true, true, false], [(0, .aload_n 0, []), (1, .iload_n 1, []), (2, .invokevirtual 36, [21, 1, 1]), (5, .istore_n 3, []), (6, .iload_n 3, []), (7, .aload_n 0, []), (8, .getfield 18, [4, 2, 0]), (11, .if_icmp .ge 13, [24]), (14, .aload_n 0, []), (15, .getfield 9, [4, 0, 2]), (18, .iload_n 3, []), (19, .iaload, []), (20, .iload_n 1, []), (21, .if_icmp .eq 9, [30]), (24, .nop, [24])]),
  (24, [true, true, true, true], [(24, .aload_n 0, []), (25, .iload_n 3, []), (26, .iload_n 1, []), (27, .invokevirtual 39, [26, 2, 0]), (30, .nop, [30])]),
  (30, [true, true, true, true], [(30, .iload_n 3, []), (31, .aload_n 0, []), (32, .getfield 18, [4, 2, 0]), (35, .if_icmp .ge 37, [72]), (38, .aload_n 0, []), (39, .getfield 9, [4, 0, 2]), (42, .iload_n 3, []), (43, .iaload, []), (44, .iload_n 1, []), (45, .if_icmp .ne 27, [72]), (48, .aload_n 0, []), (49, .getfield 15, [4, 1, 2]), (52, .iload_n 3, []), (53, .dup2, []), (54, .iaload, []), (55, .iload_n 2, []), (56, .iadd, []), (57, .iastore, []), (58, .aload_n 0, []), (59, .getfield 15, [4, 1, 2]), (62, .iload_n 3, []), (63, .iaload, []), (64, .ifCond .gt 8, [72]), (67, .aload_n 0, []), (68, .iload_n 3, []), (69, .invokevirtual 43, [27, 1, 0]), (72, .nop, [72])]),
  (72, [false, false, false, false], [(72, .return_, [])])]
def zv_b26 : List (Nat × List Bool × List zv_I) := [
  (0, [true, true, true], [(0, .aload_n 0, []), (1, .getfield 18, [4, 2, 0]), (4, .sipush 300, []), (7, .if_icmp .lt 4, [11]), (10, .return_, [])]),
  (11, [true, true, true], [(11, .aload_n 0, []), (12, .getfield 9, [4, 0, 2]), (15, .iload_n 1, []), (16, .aload_n 0, []), (17, .getfield 9, [4, 0, 2]), (20, .iload_n 1, []), (21, .iconst 1, []), (22, .iadd, []), (23, .aload_n 0, []), (24, .getfield 18, [4, 2, 0]), (27, .iload_n 1, []), (28, .isub, []), (29, .invokestatic 22, [1000]), (32, .aload_n 0, []), (33, .getfield 15, [4, 1, 2]), (36, .iload_n 1, []), (37, .aload_n 0, []), (38, .getfield 15, [4, 1, 2]), (41, .iload_n 1, []), (42, .iconst 1, []), (43, .iadd, []), (44, .aload_n 0, []), (45, .getfield 18, [4, 2, 0]), (48, .iload_n 1, []), (49, .isub, []), (50, .invokestatic 22, [1000]), (53, .aload_n 0, []), (54, .getfield 9, [4, 0, 2]), (57, .iload_n 1, []), (58, .iload_n 2, []), (59, .iastore, []), (60, .aload_n 0, []), (61, .getfield 15, [4, 1, 2]), (64, .iload_n 1, []), (65, .iconst 0, []), (66, .iastore, []), (67, .aload_n 0, []), (68, .dup, []), (69, .getfield 18, [4, 2, 0]), (72, .iconst 1, []), (73, .iadd, []), (74, .putfield 18, [4, 2, 0]), (77, .return_, [])])]
def zv_b27 : List (Nat × List Bool × List zv_I) := [
  (0, [true, true], [(0, .aload_n 0, []), (1, .getfield 9, [4, 0, 2]), (4, .iload_n 1, []), (5, .iconst 1, []), (6, .iadd, []), (7, .aload_n 0, []), (8, .getfield 9, [4, 0, 2]), (11, .iload_n 1, []), (12, .aload_n 0, []), (13, .getfield 18, [4, 2, 0]), (16, .iload_n 1, []), (17, .isub, []), (18, .iconst 1, []), (19, .isub, []), (20, .invokestatic 22, [1000]), (23, .aload_n 0, []), (24, .getfield 15, [4, 1, 2]), (27, .iload_n 1, []), (28, .iconst 1, []), (29, .iadd, []), (30, .aload_n 0, []), (31, .getfield 15, [4, 1, 2]), (34, .iload_n 1, []), (35, .aload_n 0, []), (36, .getfield 18, [4, 2, 0]), (39, .iload_n 1, []), (40, .isub, []), (41, .iconst 1, []), (42, .isub, []), (43, .invokestatic 22, [1000]), (46, .aload_n 0, []), (47, .dup, []), (48, .getfield 18, [4, 2, 0]), (51, .iconst 1, []), (52, .isub, []), (53, .putfield 18, [4, 2, 0]), (56, .return_, [])])]
def zv_b28 : List (Nat × List Bool × List zv_I) := [
  (0, [true, true, false], [(0, .aload_n 0, []), (1, .invokespecial 1, [1002]), (4, .aload_n 0, []), (5, .iload_n 1, []), (6, .newarray .int, [0]), (8, .putfield 7, [5, 0, 2]), (11, .iload_n 1, []), (12, .iconst 2, []), (13, .idiv, []), (14, .iconst 1, []), (15, .iadd, []), (16, .istore_n 2, []), (17, .aload_n 0, []), (18, .iload_n 2, []), (19, .newarray .int, [0]), (21, .putfield 13, [5, 4, 2]), (24, .aload_n 0, []), (25, .iload_n 2, []), (26, .newarray .int, [0]), (28, .putfield 16, [5, 5, 2]), (31, .aload_n 0, []), (32, .iload_n 2, []), (33, .newarray .int, [0]), (35, .putfield 19, [5, 6, 2]), (38, .aload_n 0, []), (39, .iload_n 2, []), (40, .newarray .long, [1]), (42, .putfield 22, [5, 7, 2]), (45, .return_, [])])]
def zv_b29 : List (Nat × List Bool × List zv_I) := [
  (0, [true, true, true], [(0, .aload_n 0, []), (1, .iconst 0, []), (2, .iload_n 2, []), (3, .aload_n 1, []), (4, .arraylength, []), (5, .aload_n 0, []), (6, .getfield 7, [5, 0, 2]), (9, .arraylength, []), (10, .invokestatic 26, [199, 2, 1]), (13, .invokestatic 26, [199, 2, 1]), (16, .invokestatic 32, [197, 2, 1]), (19, .putfield 35, [5, 1, 0]), (22, .aload_n 1, []), (23, .iconst 0, []), (24, .aload_n 0, []), (25, .getfield 7, [5, 0, 2]), (28, .iconst 0, []), (29, .aload_n 0, []), (30, .getfield 35, [5, 1, 0]), (33, .invokestatic 39, [1000]), (36, .return_, [])])]
def zv_b30 : List (Nat × List Bool × List zv_I) := [
  (0, [true, true, false], [(0, .aload_n 0, []), (1, .aload_n 1, []), (2, .getfield 45, [5, 3, 0]), (5, .aload_n 0, []), (6, .getfield 7, [5, 0, 2]), (9, .arraylength, []), (10, .invokestatic 26, [199, 2, 1]), (13, .putfield 35, [5, 1, 0]), (16, .iconst 0, []), (17, .istore_n 2, []), (18, .nop, [18])]),
  (18, [true, true, true], [(18, .iload_n 2, []), (19, .aload_n 0, []), (20, .getfield 35, [5, 1, 0]), (23, .if_icmp .ge 20, [43]), (26, .aload_n 0, []), (27, .getfield 7, [5, 0, 2]), (30, .iload_n 2, []), (31, .aload_n 1, []), (32, .iload_n 2, []), (33, .invokevirtual 48, [35, 1, 1]), (36, .iastore, []), (37, .iinc 2 1, []), (40, .goto (-22), [18])]),
  (43, [false, false, false], [(43, .return_, [])])]
def zv_b31 : List (Nat × List Bool × List zv_I) := [
  (0, [true, true, true, false, false], [(0, .aload_n 0, []), (1, .iload_n 2, []), (2, .putfield 52, [5, 2, 0]), (5, .aload_n 0, []), (6, .iconst 0, []), (7, .putfield 45, [5, 3, 0]), (10, .iconst 0, []), (11, .istore_n 3, []), (12, .nop, [12])]),
  (12, [true, true, false, true, false], [(12, .iload_n 3, []), (13, .aload_n 0, []), (14, .getfield 35, [5, 1, 0]), (17, .if_icmp .ge 80, [97]), (20, .aload_n 0, []), (21, .getfield 45, [5, 3, 0]), (24, .aload_n 0, []), (25, .getfield 13, [5, 4, 2]), (28, .arraylength, []), (29, .if_icmp .ge 68, [97]), (32, .aload_n 1, []), (33, .aload_n 0, []), (34, .getfield 7, [5, 0, 2]), (37, .iload_n 3, []), (38, .aload_n 0, []), (39, .getfield 35, [5, 1, 0]), (42, .aload_n 0, []), (43, .getfield 52, [5, 2, 0]), (46, .invokevirtual 55, [14, 4, 1]), (49, .istore 4, []), (51, .aload_n 0, []), (52, .getfield 13, [5, 4, 2]), (55, .aload_n 0, []), (56, .getfield 45, [5, 3, 0]), (59, .iload_n 3, []), (60, .iastore, []), (61, .aload_n 0, []), (62, .aload_n 0, []), (63, .getfield 45, [5, 3, 0]), (66, .iload 4, []), (68, .aload_n 1, []), (69, .getfield 61, [2, 2, 1]), (72, .aload_n 1, []), (73, .getfield 65, [2, 3, 1]), (76, .invokevirtual 68, [32, 4, 0]), (79, .aload_n 0, []), (80, .dup, []), (81, .getfield 45, [5, 3, 0]), (84, .iconst 1, []), (85, .iadd, []), (86, .putfield 45, [5, 3, 0]), (89, .iload 4, []), (91, .iconst 1, []), (92, .iadd, []), (93, .istore_n 3, []), (94, .goto (-82), [12])]),
  (97, [false, false, false, false, false], [(97, .return_, [])])]
def zv_b32 : List (Nat × List Bool × List zv_I) := [
  (0, [true, true, true, true, false, true, false, false, false, false, false, false, false, false, false, false], [(0, .lload_n 3, []), (1, .lload 5, []), (3, .invokestatic 72, [33, 2, 2]), (6, .lstore 7, []), (8, .lload_n 3, []), (9, .lload 7, []), (11, .ldiv, []), (12, .l2i, []), (13, .istore 9, []), (15, .lload 5, []), (17, .lload 7, []), (19, .ldiv, []), (20, .l2i, []), (21, .istore 10, []), (23, .lconst 0, []), (24, .lstore 11, []), (26, .aload_n 0, []), (27, .getfield 13, [5, 4, 2]), (30, .iload_n 1, []), (31, .iaload, []), (32, .istore 13, []), (34, .nop, [34])]),
  (34, [true, true, true, false, false, false, false, false, false, true, true, true, false, true, false, false], [(34, .iload 13, []), (36, .iload_n 2, []), (37, .if_icmp .gt 59, [96]), (40, .iload 10, []), (42, .i2l, []), (43, .iload 13, []), (45, .aload_n 0, []), (46, .getfield 52, [5, 2, 0]), (49, .isub, []), (50, .i2l, []), (51, .lmul, []), (52, .iload 9, []), (54, .i2l, []), (55, .aload_n 0, []), (56, .getfield 7, [5, 0, 2]), (59, .iload 13, []), (61, .iaload, []), (62, .i2l, []), (63, .lmul, []), (64, .lsub, []), (65, .lstore 14, []), (67, .iload 13, []), (69, .aload_n 0, []), (70, .getfield 13, [5, 4, 2]), (73, .iload_n 1, []), (74, .iaload, []), (75, .if_icmp .eq 11, [86]), (78, .lload 14, []), (80, .lload 11, []), (82, .lcmp, []), (83, .ifCond .le 7, [90]), (86, .nop, [86])]),
  (86, [true, true, true, false, false, false, false, false, false, true, true, false, false, true, true, false], [(86, .lload 14, []), (88, .lstore 11, []), (90, .nop, [90])]),
  (90, [true, true, true, false, false, false, false, false, false, true, true, true, false, true, false, false], [(90, .iinc 13 1, []), (93, .goto (-59), [34])]),
  (96, [true, true, false, false, false, false, false, false, false, true, true, true, false, false, false, false], [(96, .aload_n 0, []), (97, .getfield 16, [5, 5, 2]), (100, .iload_n 1, []), (101, .iload 9, []), (103, .iastore, []), (104, .aload_n 0, []), (105, .getfield 19, [5, 6, 2]), (108, .iload_n 1, []), (109, .iload 10, []), (111, .iastore, []), (112, .aload_n 0, []), (113, .getfield 22, [5, 7, 2]), (116, .iload_n 1, []), (117, .lload 11, []), (119, .lastore, []), (120, .return_, [])])]
def zv_b33 : List (Nat × List Bool × List zv_I) := [
  (0, [true, false, true, false, false, false, false, false, false, false, false], [(0, .lload_n 2, []), (1, .lstore 4, []), (3, .lload_n 0, []), (4, .lstore 6, []), (6, .iconst 0, []), (7, .istore 8, []), (9, .nop, [9])]),
  (9, [false, false, false, false, true, false, true, false, true, false, false], [(9, .iload 8, []), (11, .bipush 100, []), (13, .if_icmp .ge 31, [44]), (16, .lload 6, []), (18, .lconst 0, []), (19, .lcmp, []), (20, .ifCond .le 24, [44]), (23, .lload 4, []), (25, .lload 6, []), (27, .lrem, []), (28, .lstore 9, []), (30, .lload 6, []), (32, .lstore 4, []), (34, .lload 9, []), (36, .lstore 6, []), (38, .iinc 8 1, []), (41, .goto (-32), [9])]),
  (44, [false, false, false, false, true, false, false, false, false, false, false], [(44, .lconst 1, []), (45, .lload 4, []), (47, .invokestatic 76, [198, 2, 2]), (50, .lreturn, [])])]
def zv_b34 : List (Nat × List Bool × List zv_I) := [
  (0, [true, true], [(0, .iload_n 1, []), (1, .iconst 1, []), (2, .iadd, []), (3, .aload_n 0, []), (4, .getfield 45, [5, 3, 0]), (7, .if_icmp .ge 16, [23]), (10, .aload_n 0, []), (11, .getfield 13, [5, 4, 2]), (14, .iload_n 1, []), (15, .iconst 1, []), (16, .iadd, []), (17, .iaload, []), (18, .iconst 1, []), (19, .isub, []), (20, .goto 9, [29])]),
  (23, [true, false], [(23, .aload_n 0, []), (24, .getfield 35, [5, 1, 0]), (27, .iconst 1, []), (28, .isub, []), (29, .nop, [29])]),
  (29, [false, false], [(29, .ireturn, [])])]
def zv_b35 : List (Nat × List Bool × List zv_I) := [
  (0, [true, true], [(0, .aload_n 0, []), (1, .getfield 7, [5, 0, 2]), (4, .aload_n 0, []), (5, .getfield 13, [5, 4, 2]), (8, .iload_n 1, []), (9, .iaload, []), (10, .iaload, []), (11, .ireturn, [])])]
def zv_b36 : List (Nat × List Bool × List zv_I) := [
  (0, [true, true, true, false, false, false, false], [(0, .iconst 1, []), (1, .aload_n 0, []), (2, .getfield 19, [5, 6, 2]), (5, .iload_n 1, []), (6, .iaload, []), (7, .invokestatic 32, [197, 2, 1]), (10, .i2l, []), (11, .lstore_n 3, []), (12, .aload_n 0, []), (13, .getfield 16, [5, 5, 2]), (16, .iload_n 1, []), (17, .iaload, []), (18, .i2l, []), (19, .iload_n 2, []), (20, .i2l, []), (21, .lmul, []), (22, .aload_n 0, []), (23, .getfield 22, [5, 7, 2]), (26, .iload_n 1, []), (27, .laload, []), (28, .ladd, []), (29, .lload_n 3, []), (30, .invokestatic 78, [195, 2, 2]), (33, .lstore 5, []), (35, .lconst 0, []), (36, .lload 5, []), (38, .aload_n 0, []), (39, .iload_n 1, []), (40, .invokevirtual 81, [34, 1, 1]), (43, .iconst 1, []), (44, .iadd, []), (45, .i2l, []), (46, .invokestatic 84, [200, 2, 2]), (49, .invokestatic 76, [198, 2, 2]), (52, .l2i, []), (53, .ireturn, [])])]
def zv_b37 : List (Nat × List Bool × List zv_I) := [
  (0, [true], [(0, .aload_n 0, []), (1, .invokespecial 3, [1002]), (4, .aload_n 0, []), (5, .bipush 100, []), (7, .newarray .int, [0]), (9, .putfield 9, [6, 0, 2]), (12, .aload_n 0, []), (13, .bipush 100, []), (15, .newarray .int, [0]), (17, .putfield 15, [6, 1, 2]), (20, .aload_n 0, []), (21, .bipush 32, []), (23, .newarray .int, [0]), (25, .putfield 18, [6, 3, 2]), (28, .return_, [])])]
def zv_b38 : List (Nat × List Bool × List zv_I) := [
  (0, [true, true], [(0, .aload_n 1, []), (1, .getfield 9, [6, 0, 2]), (4, .iconst 0, []), (5, .aload_n 0, []), (6, .getfield 9, [6, 0, 2]), (9, .iconst 0, []), (10, .bipush 100, []), (12, .invokestatic 21, [1000]), (15, .aload_n 1, []), (16, .getfield 15, [6, 1, 2]), (19, .iconst 0, []), (20, .aload_n 0, []), (21, .getfield 15, [6, 1, 2]), (24, .iconst 0, []), (25, .bipush 100, []), (27, .invokestatic 21, [1000]), (30, .aload_n 0, []), (31, .aload_n 1, []), (32, .getfield 27, [6, 2, 0]), (35, .putfield 27, [6, 2, 0]), (38, .aload_n 1, []), (39, .getfield 18, [6, 3, 2]), (42, .iconst 0, []), (43, .aload_n 0, []), (44, .getfield 18, [6, 3, 2]), (47, .iconst 0, []), (48, .aload_n 0, []), (49, .getfield 18, [6, 3, 2]), (52, .arraylength, []), (53, .invokestatic 21, [1000]), (56, .aload_n 0, []), (57, .aload_n 1, []), (58, .getfield 31, [6, 4, 0]), (61, .putfield 31, [6, 4, 0]), (64, .return_, [])])]
def zv_b39 : List (Nat × List Bool × List zv_I) := [
  (0, [true, true, true], [(0, .iload_n 1, []), (1, .invokestatic 34, [43, 1, 1]), (4, .ifCond .eq 19, [23]), (7, .iload_n 2, []), (8, .invokestatic 34, [43, 1, 1]), (11, .ifCond .eq 12, [23]), (14, .aload_n 0, []), (15, .getfield 27, [6, 2, 0]), (18, .bipush 100, []), (20, .if_icmp .lt 5, [25]), (23, .nop, [23])]),
  (23, [false, false, false], [(23, .iconst (-1), []), (24, .ireturn, [])]),
  (25, [true, true, true], [(25, .aload_n 0, []), (26, .getfield 9, [6, 0, 2]), (29, .aload_n 0, []), (30, .getfield 27, [6, 2, 0]), (33, .iload_n 1, []), (34, .iastore, []), (35, .aload_n 0, []), (36, .getfield 15, [6, 1, 2]), (39, .aload_n 0, []), (40, .getfield 27, [6, 2, 0]), (43, .iload_n 2, []), (44, .iastore, []), (45, .aload_n 0, []), (46, .dup, []), (47, .getfield 27, [6, 2, 0]), (50, .iconst 1, []), (51, .iadd, []), (52, .putfield 27, [6, 2, 0]), (55, .aload_n 0, []), (56, .getfield 27, [6, 2, 0]), (59, .iconst 1, []), (60, .isub, []), (61, .ireturn, [])])]
def zv_b40 : List (Nat × List Bool × List zv_I) := [
  (0, [true, true, true, true, true, false], [(0, .iload_n 1, []), (1, .invokestatic 34, [43, 1, 1]), (4, .ifCond .eq 29, [33]), (7, .iload_n 2, []), (8, .invokestatic 34, [43, 1, 1]), (11, .ifCond .eq 22, [33]), (14, .iload_n 3, []), (15, .invokestatic 34, [43, 1, 1]), (18, .ifCond .eq 15, [33]), (21, .iload 4, []), (23, .invokestatic 34, [43, 1, 1]), (26, .ifCond .eq 7, [33]), (29, .iconst 1, []), (30, .goto 4, [34])]),
  (33, [true, true, true, true, true, false], [(33, .iconst 0, []), (34, .nop, [34])]),
  (34, [true, true, true, true, true, false], [(34, .istore 5, []), (36, .iload 5, []), (38, .ifCond .eq 23, [61]), (41, .iload_n 1, []), (42, .iload_n 3, []), (43, .if_icmp .gt 18, [61]), (46, .iload_n 2, []), (47, .iload 4, []), (49, .if_icmp .gt 12, [61]), (52, .aload_n 0, []), (53, .getfield 31, [6, 4, 0]), (56, .bipush 8, []), (58, .if_icmp .lt 5, [63]), (61, .nop, [61])]),
  (61, [false, false, false, false, false, false], [(61, .iconst (-1), []), (62, .ireturn, [])]),
  (63, [true, true, true, true, true, false], [(63, .aload_n 0, []), (64, .getfield 18, [6, 3, 2]), (67, .iconst 4, []), (68, .aload_n 0, []), (69, .getfield 31, [6, 4, 0]), (72, .imul, []), (73, .iload_n 1, []), (74, .iastore, []), (75, .aload_n 0, []), (76, .getfield 18, [6, 3, 2]), (79, .iconst 4, []), (80, .aload_n 0, []), (81, .getfield 31, [6, 4, 0]), (84, .imul, []), (85, .iconst 1, []), (86, .iadd, []), (87, .iload_n 2, []), (88, .iastore, []), (89, .aload_n 0, []), (90, .getfield 18, [6, 3, 2]), (93, .iconst 4, []), (94, .aload_n 0, []), (95, .getfield 31, [6, 4, 0]), (98, .imul, []), (99, .iconst 2, []), (100, .iadd, []), (101, .iload_n 3, []), (102, .iastore, []), (103, .aload_n 0, []), (104, .getfield 18, [6, 3, 2]), (107, .iconst 4, []), (108, .aload_n 0, []), (109, .getfield 31, [6, 4, 0]), (112, .imul, []), (113, .iconst 3, []), (114, .iadd, []), (115, .iload 4, []), (117, .iastore, []), (118, .aload_n 0, []), (119, .dup, []), (120, .getfield 31, [6, 4, 0]), (123, .iconst 1, []), (124, .iadd, []), (125, .putfield 31, [6, 4, 0]), (128, .aload_n 0, []), (129, .getfield 31, [6, 4, 0]), (132, .iconst 1, []), (133, .isub, []), (134, .ireturn, [])])]
def zv_b41 : List (Nat × List Bool × List zv_I) := [
  (0, [true, true, false, false, false, false, false, false], [(0, .aload_n 0, []), (1, .getfield 18, [6, 3, 2]), (4, .iconst 4, []), (5, .iload_n 1, []), (6, .imul, []), (7, .iaload, []), (8, .istore_n 2, []), (9, .aload_n 0, []), (10, .getfield 18, [6, 3, 2]), (13, .iconst 4, []), (14, .iload_n 1, []), (15, .imul, []), (16, .iconst 1, []), (17, .iadd, []), (18, .iaload, []), (19, .istore_n 3, []), (20, .aload_n 0, []), (21, .getfield 18, [6, 3, 2]), (24, .iconst 4, []), (25, .iload_n 1, []), (26, .imul, []), (27, .iconst 2, []), (28, .iadd, []), (29, .iaload, []), (30, .istore 4, []), (32, .aload_n 0, []), (33, .getfield 18, [6, 3, 2]), (36, .iconst 4, []), (37, .iload_n 1, []), (38, .imul, []), (39, .iconst 3, []), (40, .iadd, []), (41, .iaload, []), (42, .istore 5, []), (44, .iconst 0, []), (45, .istore 6, []), (47, .iconst 0, []), (48, .istore 7, []), (50, .nop, [50])]),
  (50, [true, false, true, true, true, true, true, true], [(50, .iload 7, []), (52, .aload_n 0, []), (53, .getfield 27, [6, 2, 0]), (56, .if_icmp .ge 58, [114]), (59, .aload_n 0, []), (60, .getfield 9, [6, 0, 2]), (63, .iload 7, []), (65, .iaload, []), (66, .iload_n 2, []), (67, .if_icmp .lt 41, [108]), (70, .aload_n 0, []), (71, .getfield 9, [6, 0, 2]), (74, .iload 7, []), (76, .iaload, []), (77, .iload 4, []), (79, .if_icmp .gt 29, [108]), (82, .aload_n 0, []), (83, .getfield 15, [6, 1, 2]), (86, .iload 7, []), (88, .iaload, []), (89, .iload_n 3, []), (90, .if_icmp .lt 18, [108]), (93, .aload_n 0, []), (94, .getfield 15, [6, 1, 2]), (97, .iload 7, []), (99, .iaload, []), (100, .iload 5, []), (102, .if_icmp .gt 6, [108]), (105, .iinc 6 1, []), (108, .nop, [108])]),
  (108, [true, false, true, true, true, true, true, true], [(108, .iinc 7 1, []), (111, .goto (-61), [50])]),
  (114, [false, false, false, false, false, false, true, false], [(114, .iload 6, []), (116, .ireturn, [])])]
def zv_b42 : List (Nat × List Bool × List zv_I) := [
  (0, [true, true, true, false, false, false, false, false], [(0, .sipush 1024, []), (3, .istore_n 3, []), (4, .iconst 0, []), (5, .istore 4, []), (7, .iconst 0, []), (8, .istore 5, []), (10, .nop, [10])]),
  (10, [true, true, true, true, true, true, false, false], [(10, .iload 5, []), (12, .iconst 4, []), (13, .if_icmp .ge 73, [86]), (16, .aload_n 0, []), (17, .getfield 18, [6, 3, 2]), (20, .iconst 4, []), (21, .iload_n 1, []), (22, .imul, []), (23, .iconst 2, []), (24, .iload 5, []), (26, .iconst 2, []), (27, .irem, []), (28, .imul, []), (29, .iadd, []), (30, .iaload, []), (31, .istore 6, []), (33, .aload_n 0, []), (34, .getfield 18, [6, 3, 2]), (37, .iconst 4, []), (38, .iload_n 1, []), (39, .imul, []), (40, .iconst 1, []), (41, .iadd, []), (42, .iconst 2, []), (43, .iload 5, []), (45, .iconst 2, []), (46, .idiv, []), (47, .imul, []), (48, .iadd, []), (49, .iaload, []), (50, .istore 7, []), (52, .iload_n 3, []), (53, .iload_n 2, []), (54, .iload 6, []), (56, .iload 7, []), (58, .invokestatic 38, [44, 3, 1]), (61, .invokestatic 42, [199, 2, 1]), (64, .istore_n 3, []), (65, .iload 4, []), (67, .iload_n 2, []), (68, .iload 6, []), (70, .iload 7, []), (72, .invokestatic 38, [44, 3, 1]), (75, .invokestatic 48, [197, 2, 1]), (78, .istore 4, []), (80, .iinc 5 1, []), (83, .goto (-73), [10])]),
  (86, [true, false, true, true, true, false, false, false], [(86, .iconst 0, []), (87, .istore 5, []), (89, .iconst 0, []), (90, .istore 6, []), (92, .nop, [92])]),
  (92, [true, false, true, true, true, true, true, false], [(92, .iload 6, []), (94, .aload_n 0, []), (95, .getfield 27, [6, 2, 0]), (98, .if_icmp .ge 45, [143]), (101, .iload_n 2, []), (102, .aload_n 0, []), (103, .getfield 9, [6, 0, 2]), (106, .iload 6, []), (108, .iaload, []), (109, .aload_n 0, []), (110, .getfield 15, [6, 1, 2]), (113, .iload 6, []), (115, .iaload, []), (116, .invokestatic 38, [44, 3, 1]), (119, .istore 7, []), (121, .iload 7, []), (123, .iload_n 3, []), (124, .if_icmp .lt 13, [137]), (127, .iload 7, []), (129, .iload 4, []), (131, .if_icmp .gt 6, [137]), (134, .iinc 5 1, []), (137, .nop, [137])]),
  (137, [true, false, true, true, true, true, true, false], [(137, .iinc 6 1, []), (140, .goto (-48), [92])]),
  (143, [false, false, false, false, false, true, false, false], [(143, .iload 5, []), (145, .ireturn, [])])]
def zv_b43 : List (Nat × List Bool × List zv_I) := [
  (0, [true], [(0, .iload_n 0, []), (1, .ifCond .lt 13, [14]), (4, .iload_n 0, []), (5, .bipush 32, []), (7, .if_icmp .ge 7, [14]), (10, .iconst 1, []), (11, .goto 4, [15])]),
  (14, [false], [(14, .iconst 0, []), (15, .nop, [15])]),
  (15, [false], [(15, .ireturn, [])])]
def zv_b44 : List (Nat × List Bool × List zv_I) := [
  (0, [true, true, true, false, false], [(0, .iload_n 0, []), (1, .ifCond .ne 10, [11]), (4, .bipush 32, []), (6, .iload_n 2, []), (7, .imul, []), (8, .iload_n 1, []), (9, .iadd, []), (10, .ireturn, [])]),
  (11, [true, true, true, false, false], [(11, .iload_n 0, []), (12, .iconst 2, []), (13, .if_icmp .ne 23, [36]), (16, .bipush 32, []), (18, .iload_n 2, []), (19, .imul, []), (20, .iload_n 2, []), (21, .iconst 2, []), (22, .irem, []), (23, .ifCond .ne 7, [30]), (26, .iload_n 1, []), (27, .goto 7, [34])]),
  (30, [false, true, false, false, false], [(30, .bipush 31, []), (32, .iload_n 1, []), (33, .isub, []), (34, .nop, [34])]),
  (34, [false, false, false, false, false], [(34, .iadd, []), (35, .ireturn, [])]),
  (36, [false, true, true, false, false], [(36, .iconst 0, []), (37, .istore_n 3, []), (38, .iconst 0, []), (39, .istore 4, []), (41, .nop, [41])]),
  (41, [false, true, true, true, true], [(41, .iload 4, []), (43, .iconst 5, []), (44, .if_icmp .ge 39, [83]), (47, .iload_n 3, []), (48, .iload_n 1, []), (49, .iload 4, []), (51, .ishr, []), (52, .iconst 1, []), (53, .iand, []), (54, .iconst 2, []), (55, .iload 4, []), (57, .imul, []), (58, .ishl, []), (59, .ior, []), (60, .istore_n 3, []), (61, .iload_n 3, []), (62, .iload_n 2, []), (63, .iload 4, []), (65, .ishr, []), (66, .iconst 1, []), (67, .iand, []), (68, .iconst 2, []), (69, .iload 4, []), (71, .imul, []), (72, .iconst 1, []), (73, .iadd, []), (74, .ishl, []), (75, .ior, []), (76, .istore_n 3, []), (77, .iinc 4 1, []), (80, .goto (-39), [41])]),
  (83, [false, false, false, true, false], [(83, .iload_n 3, []), (84, .ireturn, [])])]
def zv_b45 : List (Nat × List Bool × List zv_I) := [
  (0, [true], [(0, .aload_n 0, []), (1, .invokespecial 3, [1002]), (4, .aload_n 0, []), (5, .sipush 301, []), (8, .newarray .int, [0]), (10, .putfield 9, [7, 0, 2]), (13, .aload_n 0, []), (14, .sipush 301, []), (17, .newarray .int, [0]), (19, .putfield 15, [7, 1, 2]), (22, .return_, [])])]
def zv_b46 : List (Nat × List Bool × List zv_I) := [
  (0, [true, true, false, true, false], [(0, .aload_n 0, []), (1, .iconst 0, []), (2, .putfield 18, [7, 2, 0]), (5, .aload_n 0, []), (6, .iconst 0, []), (7, .putfield 22, [7, 3, 0]), (10, .aload_n 0, []), (11, .lload_n 1, []), (12, .putfield 25, [7, 4, 1]), (15, .aload_n 0, []), (16, .lload_n 3, []), (17, .putfield 29, [7, 5, 1]), (20, .return_, [])])]
def zv_b47 : List (Nat × List Bool × List zv_I) := [
  (0, [true, true, true, false, false, false, false, false, false, false, false, false], [(0, .aload_n 0, []), (1, .getfield 18, [7, 2, 0]), (4, .aload_n 0, []), (5, .getfield 22, [7, 3, 0]), (8, .if_icmp .lt 4, [12]), (11, .return_, [])]),
  (12, [true, true, true, false, false, false, false, false, false, false, false, false], [(12, .iload_n 2, []), (13, .aload_n 0, []), (14, .getfield 15, [7, 1, 2]), (17, .aload_n 0, []), (18, .getfield 18, [7, 2, 0]), (21, .iaload, []), (22, .isub, []), (23, .i2l, []), (24, .lstore_n 3, []), (25, .iload_n 1, []), (26, .i2l, []), (27, .aload_n 0, []), (28, .getfield 9, [7, 0, 2]), (31, .aload_n 0, []), (32, .getfield 18, [7, 2, 0]), (35, .iaload, []), (36, .i2l, []), (37, .lsub, []), (38, .lstore 5, []), (40, .aload_n 0, []), (41, .getfield 29, [7, 5, 1]), (44, .lconst 0, []), (45, .lcmp, []), (46, .ifCond .le 21, [67]), (49, .lload_n 3, []), (50, .aload_n 0, []), (51, .getfield 29, [7, 5, 1]), (54, .lmul, []), (55, .aload_n 0, []), (56, .getfield 25, [7, 4, 1]), (59, .lload 5, []), (61, .lmul, []), (62, .lcmp, []), (63, .ifCond .gt 4, [67]), (66, .return_, [])]),
  (67, [true, true, true, true, false, true, false, false, false, false, false, false], [(67, .aload_n 0, []), (68, .getfield 18, [7, 2, 0]), (71, .iconst 1, []), (72, .iadd, []), (73, .istore 7, []), (75, .nop, [75])]),
  (75, [true, true, true, true, false, true, false, true, false, false, false, false], [(75, .iload 7, []), (77, .aload_n 0, []), (78, .getfield 22, [7, 3, 0]), (81, .if_icmp .ge 63, [144]), (84, .iload_n 2, []), (85, .aload_n 0, []), (86, .getfield 15, [7, 1, 2]), (89, .iload 7, []), (91, .iaload, []), (92, .isub, []), (93, .i2l, []), (94, .lstore 8, []), (96, .iload_n 1, []), (97, .i2l, []), (98, .aload_n 0, []), (99, .getfield 9, [7, 0, 2]), (102, .iload 7, []), (104, .iaload, []), (105, .i2l, []), (106, .lsub, []), (107, .lstore 10, []), (109, .lload 8, []), (111, .lload 5, []), (113, .lmul, []), (114, .lload_n 3, []), (115, .lload 10, []), (117, .lmul, []), (118, .lcmp, []), (119, .ifCond .ge 6, [125]), (122, .goto 22, [144])]),
  (125, [true, true, true, false, false, false, false, true, true, false, true, false], [(125, .aload_n 0, []), (126, .iload 7, []), (128, .putfield 18, [7, 2, 0]), (131, .lload 8, []), (133, .lstore_n 3, []), (134, .lload 10, []), (136, .lstore 5, []), (138, .iinc 7 1, []), (141, .goto (-66), [75])]),
  (144, [true, false, false, true, false, true, false, false, false, false, false, false], [(144, .aload_n 0, []), (145, .lload_n 3, []), (146, .putfield 25, [7, 4, 1]), (149, .aload_n 0, []), (150, .lload 5, []), (152, .putfield 29, [7, 5, 1]), (155, .return_, [])])]
def zv_b48 : List (Nat × List Bool × List zv_I) := [
  (0, [true, true, true, false, false, false, false, false, false], [(0, .aload_n 0, []), (1, .getfield 22, [7, 3, 0]), (4, .aload_n 0, []), (5, .getfield 18, [7, 2, 0]), (8, .isub, []), (9, .iconst 2, []), (10, .if_icmp .lt 98, [108]), (13, .aload_n 0, []), (14, .getfield 22, [7, 3, 0]), (17, .iconst 2, []), (18, .isub, []), (19, .istore_n 3, []), (20, .aload_n 0, []), (21, .getfield 22, [7, 3, 0]), (24, .iconst 1, []), (25, .isub, []), (26, .istore 4, []), (28, .aload_n 0, []), (29, .getfield 15, [7, 1, 2]), (32, .iload 4, []), (34, .iaload, []), (35, .aload_n 0, []), (36, .getfield 15, [7, 1, 2]), (39, .iload_n 3, []), (40, .iaload, []), (41, .isub, []), (42, .i2l, []), (43, .iload_n 1, []), (44, .i2l, []), (45, .aload_n 0, []), (46, .getfield 9, [7, 0, 2]), (49, .iload_n 3, []), (50, .iaload, []), (51, .i2l, []), (52, .lsub, []), (53, .lmul, []), (54, .lstore 5, []), (56, .iload_n 2, []), (57, .aload_n 0, []), (58, .getfield 15, [7, 1, 2]), (61, .iload_n 3, []), (62, .iaload, []), (63, .isub, []), (64, .i2l, []), (65, .aload_n 0, []), (66, .getfield 9, [7, 0, 2]), (69, .iload 4, []), (71, .iaload, []), (72, .i2l, []), (73, .aload_n 0, []), (74, .getfield 9, [7, 0, 2]), (77, .iload_n 3, []), (78, .iaload, []), (79, .i2l, []), (80, .lsub, []), (81, .lmul, []), (82, .lstore 7, []), (84, .lload 5, []), (86, .lload 7, []), (88, .lcmp, []), (89, .ifCond .ge 6, [95]), (92, .goto 16, [108])]),
  (95, [true, true, true, false, false, false, false, false, false], [(95, .aload_n 0, []), (96, .dup, []), (97, .getfield 22, [7, 3, 0]), (100, .iconst 1, []), (101, .isub, []), (102, .putfield 22, [7, 3, 0]), (105, .goto (-105), [0])]),
  (108, [true, true, true, false, false, false, false, false, false], [(108, .aload_n 0, []), (109, .getfield 22, [7, 3, 0]), (112, .aload_n 0, []), (113, .getfield 9, [7, 0, 2]), (116, .arraylength, []), (117, .if_icmp .ge 33, [150]), (120, .aload_n 0, []), (121, .getfield 9, [7, 0, 2]), (124, .aload_n 0, []), (125, .getfield 22, [7, 3, 0]), (128, .iload_n 1, []), (129, .iastore, []), (130, .aload_n 0, []), (131, .getfield 15, [7, 1, 2]), (134, .aload_n 0, []), (135, .getfield 22, [7, 3, 0]), (138, .iload_n 2, []), (139, .iastore, []), (140, .aload_n 0, []), (141, .dup, []), (142, .getfield 22, [7, 3, 0]), (145, .iconst 1, []), (146, .iadd, []), (147, .putfield 22, [7, 3, 0]), (150, .nop, [150])]),
  (150, [false, false, false, false, false, false, false, false, false], [(150, .return_, [])])]
def zv_b49 : List (Nat × List Bool × List zv_I) := [
  (0, [true], [(0, .aload_n 0, []), (1, .invokespecial 3, [1002]), (4, .aload_n 0, []), (5, .sipush 512, []), (8, .newarray .boolean, [3]), (10, .putfield 9, [8, 0, 2]), (13, .aload_n 0, []), (14, .iconst 1, []), (15, .putfield 15, [8, 1, 0]), (18, .return_, [])])]
def zv_b50 : List (Nat × List Bool × List zv_I) := [
  (0, [true, true, true, false], [(0, .aload_n 0, []), (1, .iconst 1, []), (2, .aload_n 0, []), (3, .getfield 9, [8, 0, 2]), (6, .arraylength, []), (7, .aload_n 1, []), (8, .getfield 19, [9, 3, 2]), (11, .iconst 5, []), (12, .iaload, []), (13, .invokestatic 25, [199, 2, 1]), (16, .invokestatic 31, [197, 2, 1]), (19, .putfield 15, [8, 1, 0]), (22, .aload_n 0, []), (23, .aload_n 1, []), (24, .getfield 19, [9, 3, 2]), (27, .bipush 6, []), (29, .iaload, []), (30, .putfield 34, [8, 2, 0]), (33, .aload_n 0, []), (34, .aload_n 1, []), (35, .getfield 37, [9, 0, 2]), (38, .putfield 41, [8, 3, 2]), (41, .aload_n 0, []), (42, .iload_n 2, []), (43, .ifCond .eq 13, [56]), (46, .aload_n 1, []), (47, .getfield 19, [9, 3, 2]), (50, .bipush 7, []), (52, .iaload, []), (53, .goto 4, [57])]),
  (56, [true, false, false, false], [(56, .iconst (-1), []), (57, .nop, [57])]),
  (57, [true, false, false, false], [(57, .putfield 44, [8, 4, 0]), (60, .iconst 0, []), (61, .istore_n 3, []), (62, .nop, [62])]),
  (62, [true, false, false, true], [(62, .iload_n 3, []), (63, .aload_n 0, []), (64, .getfield 15, [8, 1, 0]), (67, .if_icmp .ge 16, [83]), (70, .aload_n 0, []), (71, .getfield 9, [8, 0, 2]), (74, .iload_n 3, []), (75, .iconst 0, []), (76, .bastore, [3]), (77, .iinc 3 1, []), (80, .goto (-18), [62])]),
  (83, [true, false, false, false], [(83, .iconst 0, []), (84, .istore_n 3, []), (85, .nop, [85])]),
  (85, [true, false, false, true], [(85, .iload_n 3, []), (86, .aload_n 0, []), (87, .getfield 41, [8, 3, 2]), (90, .getfield 47, [4, 2, 0]), (93, .if_icmp .ge 30, [123]), (96, .aload_n 0, []), (97, .iload_n 3, []), (98, .invokevirtual 52, [52, 1, 1]), (101, .ifCond .ne 16, [117]), (104, .aload_n 0, []), (105, .aload_n 0, []), (106, .getfield 41, [8, 3, 2]), (109, .getfield 56, [4, 0, 2]), (112, .iload_n 3, []), (113, .iaload, []), (114, .invokevirtual 58, [54, 1, 0]), (117, .nop, [117])]),
  (117, [true, false, false, true], [(117, .iinc 3 1, []), (120, .goto (-35), [85])]),
  (123, [false, false, false, false], [(123, .return_, [])])]
def zv_b51 : List (Nat × List Bool × List zv_I) := [
  (0, [true, true, false, false, false], [(0, .aload_n 0, []), (1, .getfield 41, [8, 3, 2]), (4, .ifnull 10, [14]), (7, .iload_n 1, []), (8, .invokestatic 62, [117, 1, 1]), (11, .ifCond .ne 5, [16]), (14, .nop, [14])]),
  (14, [false, false, false, false, false], [(14, .iconst 0, []), (15, .ireturn, [])]),
  (16, [true, true, false, false, false], [(16, .aload_n 0, []), (17, .getfield 41, [8, 3, 2]), (20, .iload_n 1, []), (21, .invokevirtual 65, [21, 1, 1]), (24, .istore_n 2, []), (25, .iload_n 2, []), (26, .aload_n 0, []), (27, .getfield 41, [8, 3, 2]), (30, .getfield 47, [4, 2, 0]), (33, .if_icmp .ge 20, [53]), (36, .aload_n 0, []), (37, .getfield 41, [8, 3, 2]), (40, .getfield 56, [4, 0, 2]), (43, .iload_n 2, []), (44, .iaload, []), (45, .iload_n 1, []), (46, .if_icmp .ne 7, [53]), (49, .iconst 1, []), (50, .goto 4, [54])]),
  (53, [true, true, true, false, false], [(53, .iconst 0, []), (54, .nop, [54])]),
  (54, [true, true, true, false, false], [(54, .istore_n 3, []), (55, .iload_n 3, []), (56, .ifCond .eq 14, [70]), (59, .aload_n 0, []), (60, .iload_n 2, []), (61, .invokevirtual 52, [52, 1, 1]), (64, .ifCond .eq 18, [82]), (67, .goto 13, [80])]),
  (70, [true, true, true, false, false], [(70, .aload_n 0, []), (71, .iload_n 2, []), (72, .iconst 1, []), (73, .isub, []), (74, .invokevirtual 69, [53, 1, 1]), (77, .ifCond .eq 5, [82]), (80, .nop, [80])]),
  (80, [false, false, false, false, false], [(80, .iconst 1, []), (81, .ireturn, [])]),
  (82, [true, true, false, false, false], [(82, .iconst 0, []), (83, .istore 4, []), (85, .nop, [85])]),
  (85, [true, true, false, false, true], [(85, .iload 4, []), (87, .aload_n 0, []), (88, .getfield 34, [8, 2, 0]), (91, .if_icmp .ge 26, [117]), (94, .aload_n 0, []), (95, .getfield 9, [8, 0, 2]), (98, .aload_n 0, []), (99, .iload_n 1, []), (100, .iload 4, []), (102, .invokevirtual 72, [55, 2, 1]), (105, .baload, [3]), (106, .ifCond .ne 5, [111]), (109, .iconst 0, []), (110, .ireturn, [])]),
  (111, [true, true, false, false, true], [(111, .iinc 4 1, []), (114, .goto (-29), [85])]),
  (117, [false, false, false, false, false], [(117, .iconst 1, []), (118, .ireturn, [])])]
def zv_b52 : List (Nat × List Bool × List zv_I) := [
  (0, [true, true], [(0, .aload_n 0, []), (1, .iload_n 1, []), (2, .iconst 1, []), (3, .isub, []), (4, .invokevirtual 69, [53, 1, 1]), (7, .ifCond .ne 11, [18]), (10, .aload_n 0, []), (11, .iload_n 1, []), (12, .invokevirtual 69, [53, 1, 1]), (15, .ifCond .eq 7, [22]), (18, .nop, [18])]),
  (18, [false, false], [(18, .iconst 1, []), (19, .goto 4, [23])]),
  (22, [false, false], [(22, .iconst 0, []), (23, .nop, [23])]),
  (23, [false, false], [(23, .ireturn, [])])]
def zv_b53 : List (Nat × List Bool × List zv_I) := [
  (0, [true, true], [(0, .iload_n 1, []), (1, .ifCond .lt 48, [49]), (4, .iload_n 1, []), (5, .iconst 1, []), (6, .iadd, []), (7, .aload_n 0, []), (8, .getfield 41, [8, 3, 2]), (11, .getfield 47, [4, 2, 0]), (14, .if_icmp .ge 35, [49]), (17, .aload_n 0, []), (18, .getfield 41, [8, 3, 2]), (21, .getfield 56, [4, 0, 2]), (24, .iload_n 1, []), (25, .iconst 1, []), (26, .iadd, []), (27, .iaload, []), (28, .aload_n 0, []), (29, .getfield 41, [8, 3, 2]), (32, .getfield 56, [4, 0, 2]), (35, .iload_n 1, []), (36, .iaload, []), (37, .isub, []), (38, .aload_n 0, []), (39, .getfield 44, [8, 4, 0]), (42, .if_icmp .gt 7, [49]), (45, .iconst 1, []), (46, .goto 4, [50])]),
  (49, [false, false], [(49, .iconst 0, []), (50, .nop, [50])]),
  (50, [false, false], [(50, .ireturn, [])])]
def zv_b54 : List (Nat × List Bool × List zv_I) := [
  (0, [true, true, false], [(0, .iconst 0, []), (1, .istore_n 2, []), (2, .nop, [2])]),
  (2, [true, true, true], [(2, .iload_n 2, []), (3, .aload_n 0, []), (4, .getfield 34, [8, 2, 0]), (7, .if_icmp .ge 21, [28]), (10, .aload_n 0, []), (11, .getfield 9, [8, 0, 2]), (14, .aload_n 0, []), (15, .iload_n 1, []), (16, .iload_n 2, []), (17, .invokevirtual 72, [55, 2, 1]), (20, .iconst 1, []), (21, .bastore, [3]), (22, .iinc 2 1, []), (25, .goto (-23), [2])]),
  (28, [false, false, false], [(28, .return_, [])])]
def zv_b55 : List (Nat × List Bool × List zv_I) := [
  (0, [true, true, true, false, false], [(0, .iload_n 1, []), (1, .i2l, []), (2, .ldc2_w 75, [1000000000]), (5, .ladd, []), (6, .ldc 77, [0, 40503]), (8, .iconst 2, []), (9, .iload_n 2, []), (10, .imul, []), (11, .iadd, []), (12, .i2l, []), (13, .lmul, []), (14, .sipush 977, []), (17, .iload_n 2, []), (18, .imul, []), (19, .i2l, []), (20, .ladd, []), (21, .lstore_n 3, []), (22, .lload_n 3, []), (23, .ldc2_w 78, [2147483647]), (26, .lrem, []), (27, .aload_n 0, []), (28, .getfield 15, [8, 1, 0]), (31, .i2l, []), (32, .lrem, []), (33, .l2i, []), (34, .ireturn, [])])]
def zv_b56 : List (Nat × List Bool × List zv_I) := [
  (0, [true], [(0, .aload_n 0, []), (1, .invokespecial 3, [1002]), (4, .aload_n 0, []), (5, .new 9, [4]), (8, .dup, []), (9, .invokespecial 11, [19, 0, 0]), (12, .putfield 12, [9, 0, 2]), (15, .aload_n 0, []), (16, .sipush 300, []), (19, .newarray .int, [0]), (21, .putfield 18, [9, 1, 2]), (24, .aload_n 0, []), (25, .getstatic 22, [0, 1]), (28, .invokevirtual 25, [1001]), (31, .checkcast 26, []), (34, .putfield 30, [9, 3, 2]), (37, .aload_n 0, []), (38, .new 33, [0]), (41, .dup, []), (42, .invokespecial 35, [0, 0, 0]), (45, .putfield 36, [9, 5, 2]), (48, .aload_n 0, []), (49, .new 40, [3]), (52, .dup, []), (53, .invokespecial 42, [15, 0, 0]), (56, .putfield 43, [9, 6, 2]), (59, .aload_n 0, []), (60, .new 47, [6]), (63, .dup, []), (64, .invokespecial 49, [37, 0, 0]), (67, .putfield 50, [9, 7, 2]), (70, .return_, [])])]
def zv_b57 : List (Nat × List Bool × List zv_I) := [
  (0, [true, true], [(0, .aload_n 0, []), (1, .getfield 12, [9, 0, 2]), (4, .aload_n 1, []), (5, .getfield 12, [9, 0, 2]), (8, .invokevirtual 54, [20, 1, 0]), (11, .aload_n 1, []), (12, .getfield 18, [9, 1, 2]), (15, .iconst 0, []), (16, .aload_n 0, []), (17, .getfield 18, [9, 1, 2]), (20, .iconst 0, []), (21, .sipush 300, []), (24, .invokestatic 58, [1000]), (27, .aload_n 0, []), (28, .aload_n 1, []), (29, .getfield 64, [9, 2, 0]), (32, .putfield 64, [9, 2, 0]), (35, .aload_n 1, []), (36, .getfield 30, [9, 3, 2]), (39, .iconst 0, []), (40, .aload_n 0, []), (41, .getfield 30, [9, 3, 2]), (44, .iconst 0, []), (45, .bipush 8, []), (47, .invokestatic 58, [1000]), (50, .aload_n 0, []), (51, .aload_n 1, []), (52, .getfield 68, [9, 4, 0]), (55, .putfield 68, [9, 4, 0]), (58, .aload_n 0, []), (59, .getfield 36, [9, 5, 2]), (62, .aload_n 1, []), (63, .getfield 36, [9, 5, 2]), (66, .invokevirtual 71, [1, 1, 0]), (69, .aload_n 1, []), (70, .getfield 43, [9, 6, 2]), (73, .getfield 74, [3, 0, 2]), (76, .iconst 0, []), (77, .aload_n 0, []), (78, .getfield 43, [9, 6, 2]), (81, .getfield 74, [3, 0, 2]), (84, .iconst 0, []), (85, .bipush 64, []), (87, .invokestatic 58, [1000]), (90, .aload_n 0, []), (91, .getfield 50, [9, 7, 2]), (94, .aload_n 1, []), (95, .getfield 50, [9, 7, 2]), (98, .invokevirtual 77, [38, 1, 0]), (101, .return_, [])])]
def zv_b58 : List (Nat × List Bool × List zv_I) := [
  (0, [true], [(0, .aload_n 0, []), (1, .getfield 12, [9, 0, 2]), (4, .getfield 80, [4, 0, 2]), (7, .iconst 0, []), (8, .aload_n 0, []), (9, .getfield 18, [9, 1, 2]), (12, .iconst 0, []), (13, .aload_n 0, []), (14, .getfield 12, [9, 0, 2]), (17, .getfield 82, [4, 2, 0]), (20, .invokestatic 58, [1000]), (23, .aload_n 0, []), (24, .aload_n 0, []), (25, .getfield 12, [9, 0, 2]), (28, .getfield 82, [4, 2, 0]), (31, .putfield 64, [9, 2, 0]), (34, .aload_n 0, []), (35, .dup, []), (36, .getfield 68, [9, 4, 0]), (39, .aload_n 0, []), (40, .getfield 64, [9, 2, 0]), (43, .iadd, []), (44, .putfield 68, [9, 4, 0]), (47, .return_, [])])]
def zv_b59 : List (Nat × List Bool × List zv_I) := [
  (0, [true, true, false], [(0, .aload_n 0, []), (1, .getfield 18, [9, 1, 2]), (4, .aload_n 0, []), (5, .getfield 64, [9, 2, 0]), (8, .iload_n 1, []), (9, .invokestatic 85, [119, 3, 1]), (12, .istore_n 2, []), (13, .iload_n 2, []), (14, .aload_n 0, []), (15, .getfield 64, [9, 2, 0]), (18, .if_icmp .ge 17, [35]), (21, .aload_n 0, []), (22, .getfield 18, [9, 1, 2]), (25, .iload_n 2, []), (26, .iaload, []), (27, .iload_n 1, []), (28, .if_icmp .ne 7, [35]), (31, .iconst 1, []), (32, .goto 4, [36])]),
  (35, [false, false, false], [(35, .iconst 0, []), (36, .nop, [36])]),
  (36, [false, false, false], [(36, .ireturn, [])])]
def zv_b60 : List (Nat × List Bool × List zv_I) := [
  (0, [true, false, false, false], [(0, .iconst 0, []), (1, .istore_n 1, []), (2, .iconst 0, []), (3, .istore_n 2, []), (4, .iconst 0, []), (5, .istore_n 3, []), (6, .nop, [6])]),
  (6, [true, true, true, true], [(6, .iload_n 3, []), (7, .aload_n 0, []), (8, .getfield 64, [9, 2, 0]), (11, .if_icmp .ge 76, [87]), (14, .nop, [14])]),
  (14, [true, true, true, true], [(14, .iload_n 2, []), (15, .aload_n 0, []), (16, .getfield 12, [9, 0, 2]), (19, .getfield 82, [4, 2, 0]), (22, .if_icmp .ge 27, [49]), (25, .aload_n 0, []), (26, .getfield 12, [9, 0, 2]), (29, .getfield 80, [4, 0, 2]), (32, .iload_n 2, []), (33, .iaload, []), (34, .aload_n 0, []), (35, .getfield 18, [9, 1, 2]), (38, .iload_n 3, []), (39, .iaload, []), (40, .if_icmp .ge 9, [49]), (43, .iinc 2 1, []), (46, .goto (-32), [14])]),
  (49, [true, true, true, true], [(49, .iload_n 2, []), (50, .aload_n 0, []), (51, .getfield 12, [9, 0, 2]), (54, .getfield 82, [4, 2, 0]), (57, .if_icmp .ge 24, [81]), (60, .aload_n 0, []), (61, .getfield 12, [9, 0, 2]), (64, .getfield 80, [4, 0, 2]), (67, .iload_n 2, []), (68, .iaload, []), (69, .aload_n 0, []), (70, .getfield 18, [9, 1, 2]), (73, .iload_n 3, []), (74, .iaload, []), (75, .if_icmp .ne 6, [81]), (78, .iinc 1 1, []), (81, .nop, [81])]),
  (81, [true, true, true, true], [(81, .iinc 3 1, []), (84, .goto (-78), [6])]),
  (87, [false, true, false, false], [(87, .iload_n 1, []), (88, .ireturn, [])])]
def zv_b61 : List (Nat × List Bool × List zv_I) := [
  (0, [true], [(0, .aload_n 0, []), (1, .getfield 12, [9, 0, 2]), (4, .getfield 82, [4, 2, 0]), (7, .aload_n 0, []), (8, .invokevirtual 89, [60, 0, 1]), (11, .isub, []), (12, .ireturn, [])])]
def zv_b62 : List (Nat × List Bool × List zv_I) := [
  (0, [true], [(0, .aload_n 0, []), (1, .invokespecial 3, [1002]), (4, .aload_n 0, []), (5, .sipush 600, []), (8, .newarray .byte, [2]), (10, .putfield 9, [10, 0, 2]), (13, .aload_n 0, []), (14, .new 15, [4]), (17, .dup, []), (18, .invokespecial 17, [19, 0, 0]), (21, .putfield 18, [10, 2, 2]), (24, .aload_n 0, []), (25, .bipush 8, []), (27, .newarray .int, [0]), (29, .putfield 22, [10, 3, 2]), (32, .aload_n 0, []), (33, .iconst (-1), []), (34, .putfield 26, [10, 5, 0]), (37, .aload_n 0, []), (38, .sipush 601, []), (41, .newarray .int, [0]), (43, .putfield 30, [10, 6, 2]), (46, .aload_n 0, []), (47, .sipush 601, []), (50, .newarray .int, [0]), (52, .putfield 33, [10, 7, 2]), (55, .aload_n 0, []), (56, .sipush 601, []), (59, .newarray .int, [0]), (61, .putfield 36, [10, 8, 2]), (64, .return_, [])])]
def zv_b63 : List (Nat × List Bool × List zv_I) := [
  (0, [true, true, false], [(0, .bipush 24, []), (2, .istore_n 2, []), (3, .nop, [3])]),
  (3, [true, true, true], [(3, .iload_n 2, []), (4, .ifCond .lt 42, [46]), (7, .aload_n 0, []), (8, .getfield 39, [10, 1, 0]), (11, .sipush 600, []), (14, .if_icmp .ge 32, [46]), (17, .aload_n 0, []), (18, .getfield 9, [10, 0, 2]), (21, .aload_n 0, []), (22, .getfield 39, [10, 1, 0]), (25, .iload_n 1, []), (26, .iload_n 2, []), (27, .ishr, []), (28, .i2b, []), (29, .bastore, [2]), (30, .aload_n 0, []), (31, .dup, []), (32, .getfield 39, [10, 1, 0]), (35, .iconst 1, []), (36, .iadd, []), (37, .putfield 39, [10, 1, 0]), (40, .iinc 2 (-8), []), (43, .goto (-40), [3])]),
  (46, [false, false, false], [(46, .return_, [])])]
def zv_b64 : List (Nat × List Bool × List zv_I) := [
  (0, [true, true, false], [(0, .aload_n 0, []), (1, .getfield 18, [10, 2, 2]), (4, .aload_n 1, []), (5, .getfield 42, [9, 0, 2]), (8, .invokevirtual 45, [20, 1, 0]), (11, .aload_n 1, []), (12, .getfield 49, [9, 3, 2]), (15, .iconst 0, []), (16, .aload_n 0, []), (17, .getfield 22, [10, 3, 2]), (20, .iconst 0, []), (21, .bipush 8, []), (23, .invokestatic 50, [1000]), (26, .aload_n 0, []), (27, .iconst 0, []), (28, .putfield 56, [10, 4, 0]), (31, .aload_n 0, []), (32, .iconst (-1), []), (33, .putfield 26, [10, 5, 0]), (36, .aload_n 0, []), (37, .invokevirtual 59, [73, 0, 0]), (40, .aload_n 0, []), (41, .iconst 0, []), (42, .putfield 62, [10, 9, 0]), (45, .iconst 0, []), (46, .istore_n 2, []), (47, .nop, [47])]),
  (47, [true, false, true], [(47, .iload_n 2, []), (48, .bipush 60, []), (50, .if_icmp .gt 92, [142]), (53, .aload_n 0, []), (54, .getfield 30, [10, 6, 2]), (57, .aload_n 0, []), (58, .getfield 62, [10, 9, 0]), (61, .iaload, []), (62, .ifCond .eq 80, [142]), (65, .aload_n 0, []), (66, .getfield 56, [10, 4, 0]), (69, .ifCond .ne 73, [142]), (72, .aload_n 0, []), (73, .getfield 30, [10, 6, 2]), (76, .aload_n 0, []), (77, .getfield 62, [10, 9, 0]), (80, .iaload, []), (81, .iconst 1, []), (82, .if_icmp .ne 27, [109]), (85, .iload_n 2, []), (86, .bipush 60, []), (88, .if_icmp .ne 21, [109]), (91, .aload_n 0, []), (92, .iconst 3, []), (93, .aload_n 0, []), (94, .getfield 33, [10, 7, 2]), (97, .aload_n 0, []), (98, .getfield 62, [10, 9, 0]), (101, .iaload, []), (102, .invokevirtual 65, [65, 2, 1]), (105, .pop, []), (106, .goto 30, [136])]),
  (109, [true, false, true], [(109, .aload_n 0, []), (110, .iconst 1, []), (111, .invokevirtual 69, [66, 1, 1]), (114, .ifCond .eq 22, [136]), (117, .aload_n 0, []), (118, .aload_n 0, []), (119, .getfield 62, [10, 9, 0]), (122, .iconst 1, []), (123, .isub, []), (124, .invokevirtual 73, [68, 1, 1]), (127, .ifCond .eq 9, [136]), (130, .aload_n 0, []), (131, .iconst 3, []), (132, .invokevirtual 69, [66, 1, 1]), (135, .pop, []), (136, .nop, [136])]),
  (136, [true, false, true], [(136, .iinc 2 1, []), (139, .goto (-92), [47])]),
  (142, [false, false, false], [(142, .return_, [])])]
def zv_b65 : List (Nat × List Bool × List zv_I) := [
  (0, [true, true, true], [(0, .aload_n 0, []), (1, .iload_n 1, []), (2, .putfield 56, [10, 4, 0]), (5, .aload_n 0, []), (6, .iload_n 2, []), (7, .putfield 26, [10, 5, 0]), (10, .iconst 0, []), (11, .ireturn, [])])]
def zv_b66 : List (Nat × List Bool × List zv_I) := [
  (0, [true, true], [(0, .aload_n 0, []), (1, .getfield 30, [10, 6, 2]), (4, .aload_n 0, []), (5, .getfield 62, [10, 9, 0]), (8, .iaload, []), (9, .iload_n 1, []), (10, .if_icmp .eq 18, [28]), (13, .aload_n 0, []), (14, .iconst 1, []), (15, .aload_n 0, []), (16, .getfield 33, [10, 7, 2]), (19, .aload_n 0, []), (20, .getfield 62, [10, 9, 0]), (23, .iaload, []), (24, .invokevirtual 65, [65, 2, 1]), (27, .ireturn, [])]),
  (28, [true, false], [(28, .aload_n 0, []), (29, .dup, []), (30, .getfield 62, [10, 9, 0]), (33, .iconst 1, []), (34, .iadd, []), (35, .putfield 62, [10, 9, 0]), (38, .iconst 1, []), (39, .ireturn, [])])]
def zv_b67 : List (Nat × List Bool × List zv_I) := [
  (0, [true, true, true], [(0, .aload_n 0, []), (1, .iconst 2, []), (2, .invokevirtual 69, [66, 1, 1]), (5, .ifCond .ne 5, [10]), (8, .iconst 0, []), (9, .ireturn, [])]),
  (10, [true, true, true], [(10, .aload_n 0, []), (11, .getfield 36, [10, 8, 2]), (14, .aload_n 0, []), (15, .getfield 62, [10, 9, 0]), (18, .iconst 1, []), (19, .isub, []), (20, .iaload, []), (21, .iload_n 1, []), (22, .if_icmp .lt 18, [40]), (25, .aload_n 0, []), (26, .getfield 36, [10, 8, 2]), (29, .aload_n 0, []), (30, .getfield 62, [10, 9, 0]), (33, .iconst 1, []), (34, .isub, []), (35, .iaload, []), (36, .iload_n 2, []), (37, .if_icmp .le 20, [57]), (40, .nop, [40])]),
  (40, [true, false, false], [(40, .aload_n 0, []), (41, .iconst 2, []), (42, .aload_n 0, []), (43, .getfield 33, [10, 7, 2]), (46, .aload_n 0, []), (47, .getfield 62, [10, 9, 0]), (50, .iconst 1, []), (51, .isub, []), (52, .iaload, []), (53, .invokevirtual 65, [65, 2, 1]), (56, .ireturn, [])]),
  (57, [false, false, false], [(57, .iconst 1, []), (58, .ireturn, [])])]
def zv_b68 : List (Nat × List Bool × List zv_I) := [
  (0, [true, true], [(0, .aload_n 0, []), (1, .getfield 36, [10, 8, 2]), (4, .iload_n 1, []), (5, .iaload, []), (6, .tableswitch 63 0 4 #[34, 40, 46, 51, 57], [34, 69, 40, 46, 52, 57, 63])]),
  (40, [true, true], [(40, .aload_n 0, []), (41, .iload_n 1, []), (42, .invokevirtual 76, [69, 1, 1]), (45, .ireturn, [])]),
  (46, [true, true], [(46, .aload_n 0, []), (47, .iload_n 1, []), (48, .invokevirtual 79, [70, 1, 1]), (51, .ireturn, [])]),
  (52, [true, false], [(52, .aload_n 0, []), (53, .invokevirtual 82, [71, 0, 1]), (56, .ireturn, [])]),
  (57, [true, false], [(57, .aload_n 0, []), (58, .iconst 0, []), (59, .invokevirtual 86, [72, 1, 1]), (62, .ireturn, [])]),
  (63, [true, false], [(63, .aload_n 0, []), (64, .iconst 1, []), (65, .invokevirtual 86, [72, 1, 1]), (68, .ireturn, [])]),
  (69, [true, false], [(69, .aload_n 0, []), (70, .iconst 2, []), (71, .invokevirtual 86, [72, 1, 1]), (74, .ireturn, [])])]
def zv_b69 : List (Nat × List Bool × List zv_I) := [
  (0, [true, true, false, false], [(0, .aload_n 0, []), (1, .ldc 89, [0, 3294967297]), (3, .ldc 90, [0, 999999999]), (5, .invokevirtual 91, [67, 2, 1]), (8, .ifCond .ne 5, [13]), (11, .iconst 0, []), (12, .ireturn, [])]),
  (13, [true, true, false, false], [(13, .aload_n 0, []), (14, .getfield 36, [10, 8, 2]), (17, .aload_n 0, []), (18, .getfield 62, [10, 9, 0]), (21, .iconst 1, []), (22, .isub, []), (23, .iaload, []), (24, .istore_n 2, []), (25, .iconst 1, []), (26, .istore_n 3, []), (27, .aload_n 0, []), (28, .getfield 30, [10, 6, 2]), (31, .aload_n 0, []), (32, .getfield 62, [10, 9, 0]), (35, .iaload, []), (36, .iconst 2, []), (37, .if_icmp .ne 27, [64]), (40, .aload_n 0, []), (41, .iconst 1, []), (42, .bipush 99, []), (44, .invokevirtual 91, [67, 2, 1]), (47, .ifCond .ne 5, [52]), (50, .iconst 0, []), (51, .ireturn, [])]),
  (52, [true, true, true, false], [(52, .aload_n 0, []), (53, .getfield 36, [10, 8, 2]), (56, .aload_n 0, []), (57, .getfield 62, [10, 9, 0]), (60, .iconst 1, []), (61, .isub, []), (62, .iaload, []), (63, .istore_n 3, []), (64, .nop, [64])]),
  (64, [true, true, true, true], [(64, .aload_n 0, []), (65, .getfield 18, [10, 2, 2]), (68, .iload_n 2, []), (69, .iload_n 3, []), (70, .invokevirtual 94, [24, 2, 1]), (73, .ifCond .ne 15, [88]), (76, .aload_n 0, []), (77, .iconst 3, []), (78, .aload_n 0, []), (79, .getfield 33, [10, 7, 2]), (82, .iload_n 1, []), (83, .iaload, []), (84, .invokevirtual 65, [65, 2, 1]), (87, .ireturn, [])]),
  (88, [true, false, true, true], [(88, .aload_n 0, []), (89, .getfield 18, [10, 2, 2]), (92, .iload_n 2, []), (93, .iload_n 3, []), (94, .invokevirtual 97, [25, 2, 0]), (97, .iconst 1, []), (98, .ireturn, [])])]
def zv_b70 : List (Nat × List Bool × List zv_I) := [
  (0, [true, true, false, false, false, false, false], [(0, .aload_n 0, []), (1, .ldc 89, [0, 3294967297]), (3, .ldc 90, [0, 999999999]), (5, .invokevirtual 91, [67, 2, 1]), (8, .ifCond .eq 27, [35]), (11, .aload_n 0, []), (12, .iconst 1, []), (13, .bipush 99, []), (15, .invokevirtual 91, [67, 2, 1]), (18, .ifCond .eq 17, [35]), (21, .aload_n 0, []), (22, .iconst 1, []), (23, .ldc 101, [0, 99999]), (25, .invokevirtual 91, [67, 2, 1]), (28, .ifCond .eq 7, [35]), (31, .iconst 1, []), (32, .goto 4, [36])]),
  (35, [true, true, false, false, false, false, false], [(35, .iconst 0, []), (36, .nop, [36])]),
  (36, [true, true, false, false, false, false, false], [(36, .istore_n 2, []), (37, .iload_n 2, []), (38, .ifCond .ne 5, [43]), (41, .iconst 0, []), (42, .ireturn, [])]),
  (43, [true, true, false, false, false, false, false], [(43, .aload_n 0, []), (44, .getfield 36, [10, 8, 2]), (47, .aload_n 0, []), (48, .getfield 62, [10, 9, 0]), (51, .iconst 3, []), (52, .isub, []), (53, .iaload, []), (54, .istore_n 3, []), (55, .aload_n 0, []), (56, .getfield 36, [10, 8, 2]), (59, .aload_n 0, []), (60, .getfield 62, [10, 9, 0]), (63, .iconst 2, []), (64, .isub, []), (65, .iaload, []), (66, .istore 4, []), (68, .aload_n 0, []), (69, .getfield 36, [10, 8, 2]), (72, .aload_n 0, []), (73, .getfield 62, [10, 9, 0]), (76, .iconst 1, []), (77, .isub, []), (78, .iaload, []), (79, .istore 5, []), (81, .iload_n 3, []), (82, .iload 4, []), (84, .iconst 1, []), (85, .isub, []), (86, .iload 5, []), (88, .imul, []), (89, .iadd, []), (90, .invokestatic 102, [117, 1, 1]), (93, .ifCond .ne 20, [113]), (96, .aload_n 0, []), (97, .iconst 2, []), (98, .aload_n 0, []), (99, .getfield 33, [10, 7, 2]), (102, .aload_n 0, []), (103, .getfield 62, [10, 9, 0]), (106, .iconst 1, []), (107, .isub, []), (108, .iaload, []), (109, .invokevirtual 65, [65, 2, 1]), (112, .ireturn, [])]),
  (113, [true, true, false, true, true, true, false], [(113, .iconst 0, []), (114, .istore 6, []), (116, .nop, [116])]),
  (116, [true, true, false, true, true, true, true], [(116, .iload 6, []), (118, .iload 4, []), (120, .if_icmp .ge 54, [174]), (123, .aload_n 0, []), (124, .getfield 18, [10, 2, 2]), (127, .iload_n 3, []), (128, .iload 6, []), (130, .iload 5, []), (132, .imul, []), (133, .iadd, []), (134, .iconst 1, []), (135, .invokevirtual 94, [24, 2, 1]), (138, .ifCond .ne 15, [153]), (141, .aload_n 0, []), (142, .iconst 3, []), (143, .aload_n 0, []), (144, .getfield 33, [10, 7, 2]), (147, .iload_n 1, []), (148, .iaload, []), (149, .invokevirtual 65, [65, 2, 1]), (152, .ireturn, [])]),
  (153, [true, true, false, true, true, true, true], [(153, .aload_n 0, []), (154, .getfield 18, [10, 2, 2]), (157, .iload_n 3, []), (158, .iload 6, []), (160, .iload 5, []), (162, .imul, []), (163, .iadd, []), (164, .iconst 1, []), (165, .invokevirtual 97, [25, 2, 0]), (168, .iinc 6 1, []), (171, .goto (-55), [116])]),
  (174, [false, false, false, false, false, false, false], [(174, .iconst 1, []), (175, .ireturn, [])])]
def zv_b71 : List (Nat × List Bool × List zv_I) := [
  (0, [true, false], [(0, .aload_n 0, []), (1, .ldc 89, [0, 3294967297]), (3, .ldc 90, [0, 999999999]), (5, .invokevirtual 91, [67, 2, 1]), (8, .ifCond .ne 5, [13]), (11, .iconst 0, []), (12, .ireturn, [])]),
  (13, [true, false], [(13, .aload_n 0, []), (14, .getfield 36, [10, 8, 2]), (17, .aload_n 0, []), (18, .getfield 62, [10, 9, 0]), (21, .iconst 1, []), (22, .isub, []), (23, .iaload, []), (24, .istore_n 1, []), (25, .aload_n 0, []), (26, .getfield 18, [10, 2, 2]), (29, .iload_n 1, []), (30, .invokevirtual 105, [23, 1, 1]), (33, .ifCond .eq 20, [53]), (36, .aload_n 0, []), (37, .getfield 18, [10, 2, 2]), (40, .iload_n 1, []), (41, .aload_n 0, []), (42, .getfield 18, [10, 2, 2]), (45, .iload_n 1, []), (46, .invokevirtual 108, [22, 1, 1]), (49, .ineg, []), (50, .invokevirtual 97, [25, 2, 0]), (53, .nop, [53])]),
  (53, [false, false], [(53, .iconst 1, []), (54, .ireturn, [])])]
def zv_b72 : List (Nat × List Bool × List zv_I) := [
  (0, [true, true], [(0, .aload_n 0, []), (1, .getstatic 112, [0, 2]), (4, .iload_n 1, []), (5, .iaload, []), (6, .getstatic 115, [0, 3]), (9, .iload_n 1, []), (10, .iaload, []), (11, .invokevirtual 91, [67, 2, 1]), (14, .ifCond .ne 5, [19]), (17, .iconst 0, []), (18, .ireturn, [])]),
  (19, [true, true], [(19, .aload_n 0, []), (20, .getfield 22, [10, 3, 2]), (23, .iload_n 1, []), (24, .aload_n 0, []), (25, .getfield 36, [10, 8, 2]), (28, .aload_n 0, []), (29, .getfield 62, [10, 9, 0]), (32, .iconst 1, []), (33, .isub, []), (34, .iaload, []), (35, .iastore, []), (36, .iconst 1, []), (37, .ireturn, [])])]
def zv_b73 : List (Nat × List Bool × List zv_I) := [
  (0, [true, false, false], [(0, .iconst 0, []), (1, .istore_n 1, []), (2, .iconst 0, []), (3, .istore_n 2, []), (4, .nop, [4])]),
  (4, [true, true, true], [(4, .iload_n 2, []), (5, .aload_n 0, []), (6, .getfield 39, [10, 1, 0]), (9, .if_icmp .ge 58, [67]), (12, .iload_n 1, []), (13, .sipush 600, []), (16, .if_icmp .ge 51, [67]), (19, .aload_n 0, []), (20, .getfield 9, [10, 0, 2]), (23, .iload_n 2, []), (24, .baload, [2]), (25, .bipush 32, []), (27, .if_icmp .eq 14, [41]), (30, .aload_n 0, []), (31, .getfield 9, [10, 0, 2]), (34, .iload_n 2, []), (35, .baload, [2]), (36, .bipush 10, []), (38, .if_icmp .ne 9, [47]), (41, .nop, [41])]),
  (41, [true, true, true], [(41, .iinc 2 1, []), (44, .goto (-40), [4])]),
  (47, [true, true, true], [(47, .aload_n 0, []), (48, .getfield 33, [10, 7, 2]), (51, .iload_n 1, []), (52, .iload_n 2, []), (53, .iastore, []), (54, .aload_n 0, []), (55, .iload_n 1, []), (56, .iload_n 2, []), (57, .invokevirtual 118, [74, 2, 1]), (60, .istore_n 2, []), (61, .iinc 1 1, []), (64, .goto (-60), [4])]),
  (67, [true, true, false], [(67, .aload_n 0, []), (68, .getfield 30, [10, 6, 2]), (71, .iload_n 1, []), (72, .iconst 0, []), (73, .iastore, []), (74, .aload_n 0, []), (75, .getfield 33, [10, 7, 2]), (78, .iload_n 1, []), (79, .aload_n 0, []), (80, .getfield 39, [10, 1, 0]), (83, .iastore, []), (84, .return_, [])])]
def zv_b74 : List (Nat × List Bool × List zv_I) := [
  (0, [true, true, true], [(0, .aload_n 0, []), (1, .iload_n 2, []), (2, .invokevirtual 122, [78, 1, 1]), (5, .ifCond .eq 10, [15]), (8, .aload_n 0, []), (9, .iload_n 1, []), (10, .iload_n 2, []), (11, .invokevirtual 125, [75, 2, 1]), (14, .ireturn, [])]),
  (15, [true, true, true], [(15, .aload_n 0, []), (16, .iload_n 2, []), (17, .invokevirtual 128, [79, 1, 1]), (20, .ifCond .ne 14, [34]), (23, .aload_n 0, []), (24, .getfield 9, [10, 0, 2]), (27, .iload_n 2, []), (28, .baload, [2]), (29, .bipush 45, []), (31, .if_icmp .ne 10, [41]), (34, .nop, [34])]),
  (34, [true, true, true], [(34, .aload_n 0, []), (35, .iload_n 1, []), (36, .iload_n 2, []), (37, .invokevirtual 131, [76, 2, 1]), (40, .ireturn, [])]),
  (41, [true, true, true], [(41, .aload_n 0, []), (42, .getfield 30, [10, 6, 2]), (45, .iload_n 1, []), (46, .aload_n 0, []), (47, .getfield 9, [10, 0, 2]), (50, .iload_n 2, []), (51, .baload, [2]), (52, .bipush 59, []), (54, .if_icmp .ne 7, [61]), (57, .iconst 3, []), (58, .goto 4, [62])]),
  (61, [false, false, true], [(61, .iconst 4, []), (62, .nop, [62])]),
  (62, [false, false, true], [(62, .iastore, []), (63, .iload_n 2, []), (64, .iconst 1, []), (65, .iadd, []), (66, .ireturn, [])])]
def zv_b75 : List (Nat × List Bool × List zv_I) := [
  (0, [true, true, true, false, false], [(0, .iload_n 2, []), (1, .istore_n 3, []), (2, .nop, [2])]),
  (2, [true, true, true, true, false], [(2, .iload_n 3, []), (3, .aload_n 0, []), (4, .getfield 39, [10, 1, 0]), (7, .if_icmp .ge 17, [24]), (10, .aload_n 0, []), (11, .iload_n 3, []), (12, .invokevirtual 122, [78, 1, 1]), (15, .ifCond .eq 9, [24]), (18, .iinc 3 1, []), (21, .goto (-19), [2])]),
  (24, [true, true, true, true, false], [(24, .aload_n 0, []), (25, .getfield 30, [10, 6, 2]), (28, .iload_n 1, []), (29, .iconst 4, []), (30, .iastore, []), (31, .iconst 0, []), (32, .istore 4, []), (34, .nop, [34])]),
  (34, [true, true, true, true, true], [(34, .iload 4, []), (36, .bipush 6, []), (38, .if_icmp .ge 38, [76]), (41, .aload_n 0, []), (42, .iload 4, []), (44, .invokestatic 134, [80, 1, 3]), (47, .iload_n 2, []), (48, .iload_n 3, []), (49, .invokevirtual 138, [77, 3, 1]), (52, .ifCond .eq 18, [70]), (55, .aload_n 0, []), (56, .getfield 30, [10, 6, 2]), (59, .iload_n 1, []), (60, .iconst 1, []), (61, .iastore, []), (62, .aload_n 0, []), (63, .getfield 36, [10, 8, 2]), (66, .iload_n 1, []), (67, .iload 4, []), (69, .iastore, []), (70, .nop, [70])]),
  (70, [true, true, true, true, true], [(70, .iinc 4 1, []), (73, .goto (-39), [34])]),
  (76, [false, false, false, true, false], [(76, .iload_n 3, []), (77, .ireturn, [])])]
def zv_b76 : List (Nat × List Bool × List zv_I) := [
  (0, [true, true, true, false, false, false, false], [(0, .aload_n 0, []), (1, .getfield 9, [10, 0, 2]), (4, .iload_n 2, []), (5, .baload, [2]), (6, .bipush 45, []), (8, .if_icmp .ne 7, [15]), (11, .iconst 1, []), (12, .goto 4, [16])]),
  (15, [true, true, true, false, false, false, false], [(15, .iconst 0, []), (16, .nop, [16])]),
  (16, [true, true, true, false, false, false, false], [(16, .istore_n 3, []), (17, .iload_n 3, []), (18, .ifCond .eq 9, [27]), (21, .iload_n 2, []), (22, .iconst 1, []), (23, .iadd, []), (24, .goto 4, [28])]),
  (27, [true, true, true, true, false, false, false], [(27, .iload_n 2, []), (28, .nop, [28])]),
  (28, [true, true, false, true, false, false, false], [(28, .istore 4, []), (30, .iconst 0, []), (31, .istore 5, []), (33, .iconst 0, []), (34, .istore 6, []), (36, .nop, [36])]),
  (36, [true, true, false, true, true, true, true], [(36, .iload 4, []), (38, .aload_n 0, []), (39, .getfield 39, [10, 1, 0]), (42, .if_icmp .ge 51, [93]), (45, .aload_n 0, []), (46, .iload 4, []), (48, .invokevirtual 128, [79, 1, 1]), (51, .ifCond .eq 42, [93]), (54, .iinc 5 1, []), (57, .iload 5, []), (59, .bipush 9, []), (61, .if_icmp .gt 22, [83]), (64, .bipush 10, []), (66, .iload 6, []), (68, .imul, []), (69, .aload_n 0, []), (70, .getfield 9, [10, 0, 2]), (73, .iload 4, []), (75, .baload, [2]), (76, .iadd, []), (77, .bipush 48, []), (79, .isub, []), (80, .goto 5, [85])]),
  (83, [true, true, false, true, true, true, true], [(83, .iload 6, []), (85, .nop, [85])]),
  (85, [true, true, false, true, true, true, false], [(85, .istore 6, []), (87, .iinc 4 1, []), (90, .goto (-54), [36])]),
  (93, [true, true, false, true, true, true, true], [(93, .aload_n 0, []), (94, .getfield 30, [10, 6, 2]), (97, .iload_n 1, []), (98, .iload 5, []), (100, .iconst 1, []), (101, .if_icmp .lt 14, [115]), (104, .iload 5, []), (106, .bipush 9, []), (108, .if_icmp .gt 7, [115]), (111, .iconst 2, []), (112, .goto 4, [116])]),
  (115, [true, true, false, true, true, false, true], [(115, .iconst 4, []), (116, .nop, [116])]),
  (116, [true, true, false, true, true, false, true], [(116, .iastore, []), (117, .aload_n 0, []), (118, .getfield 36, [10, 8, 2]), (121, .iload_n 1, []), (122, .iload_n 3, []), (123, .ifCond .eq 9, [132]), (126, .iload 6, []), (128, .ineg, []), (129, .goto 5, [134])]),
  (132, [false, false, false, false, true, false, true], [(132, .iload 6, []), (134, .nop, [134])]),
  (134, [false, false, false, false, true, false, false], [(134, .iastore, []), (135, .iload 4, []), (137, .ireturn, [])])]
def zv_b77 : List (Nat × List Bool × List zv_I) := [
  (0, [true, true, true, true, false], [(0, .iload_n 3, []), (1, .iload_n 2, []), (2, .isub, []), (3, .aload_n 1, []), (4, .invokevirtual 142, [201, 0, 1]), (7, .if_icmp .eq 5, [12]), (10, .iconst 0, []), (11, .ireturn, [])]),
  (12, [true, true, true, false, false], [(12, .iconst 0, []), (13, .istore 4, []), (15, .nop, [15])]),
  (15, [true, true, true, false, true], [(15, .iload 4, []), (17, .aload_n 1, []), (18, .invokevirtual 142, [201, 0, 1]), (21, .if_icmp .ge 29, [50]), (24, .aload_n 0, []), (25, .getfield 9, [10, 0, 2]), (28, .iload_n 2, []), (29, .iload 4, []), (31, .iadd, []), (32, .baload, [2]), (33, .aload_n 1, []), (34, .iload 4, []), (36, .invokevirtual 147, [202, 1, 1]), (39, .if_icmp .eq 5, [44]), (42, .iconst 0, []), (43, .ireturn, [])]),
  (44, [true, true, true, false, true], [(44, .iinc 4 1, []), (47, .goto (-32), [15])]),
  (50, [false, false, false, false, false], [(50, .iconst 1, []), (51, .ireturn, [])])]
def zv_b78 : List (Nat × List Bool × List zv_I) := [
  (0, [true, true], [(0, .aload_n 0, []), (1, .getfield 9, [10, 0, 2]), (4, .iload_n 1, []), (5, .baload, [2]), (6, .bipush 97, []), (8, .if_icmp .lt 14, [22]), (11, .aload_n 0, []), (12, .getfield 9, [10, 0, 2]), (15, .iload_n 1, []), (16, .baload, [2]), (17, .bipush 122, []), (19, .if_icmp .le 25, [44]), (22, .nop, [22])]),
  (22, [true, true], [(22, .aload_n 0, []), (23, .getfield 9, [10, 0, 2]), (26, .iload_n 1, []), (27, .baload, [2]), (28, .bipush 65, []), (30, .if_icmp .lt 18, [48]), (33, .aload_n 0, []), (34, .getfield 9, [10, 0, 2]), (37, .iload_n 1, []), (38, .baload, [2]), (39, .bipush 90, []), (41, .if_icmp .gt 7, [48]), (44, .nop, [44])]),
  (44, [false, false], [(44, .iconst 1, []), (45, .goto 4, [49])]),
  (48, [false, false], [(48, .iconst 0, []), (49, .nop, [49])]),
  (49, [false, false], [(49, .ireturn, [])])]
def zv_b79 : List (Nat × List Bool × List zv_I) := [
  (0, [true, true], [(0, .aload_n 0, []), (1, .getfield 9, [10, 0, 2]), (4, .iload_n 1, []), (5, .baload, [2]), (6, .bipush 48, []), (8, .if_icmp .lt 18, [26]), (11, .aload_n 0, []), (12, .getfield 9, [10, 0, 2]), (15, .iload_n 1, []), (16, .baload, [2]), (17, .bipush 57, []), (19, .if_icmp .gt 7, [26]), (22, .iconst 1, []), (23, .goto 4, [27])]),
  (26, [false, false], [(26, .iconst 0, []), (27, .nop, [27])]),
  (27, [false, false], [(27, .ireturn, [])])]
def zv_b80 : List (Nat × List Bool × List zv_I) := [
  (0, [true], [(0, .iload_n 0, []), (1, .tableswitch 57 0 5 #[39, 42, 45, 48, 51, 54], [39, 58, 40, 43, 46, 49, 52, 55])]),
  (40, [false], [(40, .ldc 151, [1, 20]), (42, .areturn, [])]),
  (43, [false], [(43, .ldc 153, [1, 21]), (45, .areturn, [])]),
  (46, [false], [(46, .ldc 155, [1, 22]), (48, .areturn, [])]),
  (49, [false], [(49, .ldc 157, [1, 23]), (51, .areturn, [])]),
  (52, [false], [(52, .ldc 159, [1, 24]), (54, .areturn, [])]),
  (55, [false], [(55, .ldc 161, [1, 25]), (57, .areturn, [])]),
  (58, [false], [(58, .ldc 163, [1, 26]), (60, .areturn, [])])]
def zv_b81 : List (Nat × List Bool × List zv_I) := [
  (0, [true], [(0, .aload_n 0, []), (1, .invokespecial 3, [1002]), (4, .aload_n 0, []), (5, .new 9, [9]), (8, .dup, []), (9, .invokespecial 11, [56, 0, 0]), (12, .putfield 12, [11, 0, 2]), (15, .aload_n 0, []), (16, .new 9, [9]), (19, .dup, []), (20, .invokespecial 11, [56, 0, 0]), (23, .putfield 16, [11, 1, 2]), (26, .aload_n 0, []), (27, .iconst 0, []), (28, .putfield 19, [11, 2, 3]), (31, .aload_n 0, []), (32, .new 23, [10]), (35, .dup, []), (36, .invokespecial 25, [62, 0, 0]), (39, .putfield 26, [11, 3, 2]), (42, .aload_n 0, []), (43, .new 30, [1]), (46, .dup, []), (47, .invokespecial 32, [5, 0, 0]), (50, .putfield 33, [11, 4, 2]), (53, .aload_n 0, []), (54, .new 30, [1]), (57, .dup, []), (58, .invokespecial 32, [5, 0, 0]), (61, .putfield 37, [11, 5, 2]), (64, .aload_n 0, []), (65, .new 40, [8]), (68, .dup, []), (69, .invokespecial 42, [49, 0, 0]), (72, .putfield 43, [11, 6, 2]), (75, .aload_n 0, []), (76, .sipush 301, []), (79, .newarray .int, [0]), (81, .putfield 47, [11, 7, 2]), (84, .return_, [])])]
def zv_b82 : List (Nat × List Bool × List zv_I) := [
  (0, [true, true, true, true, true, true], [(0, .aload_n 0, []), (1, .getfield 26, [11, 3, 2]), (4, .getfield 51, [10, 1, 0]), (7, .bipush 20, []), (9, .iadd, []), (10, .sipush 600, []), (13, .if_icmp .le 5, [18]), (16, .iconst (-1), []), (17, .ireturn, [])]),
  (18, [true, true, true, true, true, true], [(18, .aload_n 0, []), (19, .getfield 26, [11, 3, 2]), (22, .iload_n 1, []), (23, .invokevirtual 55, [63, 1, 0]), (26, .aload_n 0, []), (27, .getfield 26, [11, 3, 2]), (30, .iload_n 2, []), (31, .invokevirtual 55, [63, 1, 0]), (34, .aload_n 0, []), (35, .getfield 26, [11, 3, 2]), (38, .iload_n 3, []), (39, .invokevirtual 55, [63, 1, 0]), (42, .aload_n 0, []), (43, .getfield 26, [11, 3, 2]), (46, .iload 4, []), (48, .invokevirtual 55, [63, 1, 0]), (51, .aload_n 0, []), (52, .getfield 26, [11, 3, 2]), (55, .iload 5, []), (57, .invokevirtual 55, [63, 1, 0]), (60, .aload_n 0, []), (61, .getfield 26, [11, 3, 2]), (64, .getfield 51, [10, 1, 0]), (67, .ireturn, [])])]
def zv_b83 : List (Nat × List Bool × List zv_I) := [
  (0, [true, true], [(0, .iload_n 1, []), (1, .ifCond .lt 14, [15]), (4, .iload_n 1, []), (5, .aload_n 0, []), (6, .getfield 26, [11, 3, 2]), (9, .getfield 51, [10, 1, 0]), (12, .if_icmp .le 5, [17]), (15, .nop, [15])]),
  (15, [false, false], [(15, .iconst 0, []), (16, .ireturn, [])]),
  (17, [true, true], [(17, .aload_n 0, []), (18, .getfield 26, [11, 3, 2]), (21, .iload_n 1, []), (22, .putfield 51, [10, 1, 0]), (25, .iconst 1, []), (26, .ireturn, [])])]
def zv_b84 : List (Nat × List Bool × List zv_I) := [
  (0, [true], [(0, .aload_n 0, []), (1, .getfield 26, [11, 3, 2]), (4, .aload_n 0, []), (5, .getfield 12, [11, 0, 2]), (8, .invokevirtual 59, [64, 1, 0]), (11, .aload_n 0, []), (12, .getfield 26, [11, 3, 2]), (15, .iconst 0, []), (16, .putfield 51, [10, 1, 0]), (19, .aload_n 0, []), (20, .getfield 26, [11, 3, 2]), (23, .getfield 63, [10, 4, 0]), (26, .ifCond .eq 5, [31]), (29, .iconst (-1), []), (30, .ireturn, [])]),
  (31, [true], [(31, .aload_n 0, []), (32, .getfield 12, [11, 0, 2]), (35, .getfield 66, [9, 0, 2]), (38, .aload_n 0, []), (39, .getfield 26, [11, 3, 2]), (42, .getfield 70, [10, 2, 2]), (45, .invokevirtual 71, [20, 1, 0]), (48, .aload_n 0, []), (49, .getfield 26, [11, 3, 2]), (52, .getfield 77, [10, 3, 2]), (55, .iconst 0, []), (56, .aload_n 0, []), (57, .getfield 12, [11, 0, 2]), (60, .getfield 80, [9, 3, 2]), (63, .iconst 0, []), (64, .bipush 8, []), (66, .invokestatic 81, [1000]), (69, .aload_n 0, []), (70, .getfield 12, [11, 0, 2]), (73, .getfield 87, [9, 5, 2]), (76, .invokevirtual 91, [2, 0, 0]), (79, .aload_n 0, []), (80, .invokevirtual 96, [113, 0, 0]), (83, .aload_n 0, []), (84, .getfield 12, [11, 0, 2]), (87, .getfield 66, [9, 0, 2]), (90, .getfield 99, [4, 2, 0]), (93, .ireturn, [])])]
def zv_b85 : List (Nat × List Bool × List zv_I) := [
  (0, [true, true], [(0, .iload_n 1, []), (1, .ifCond .ne 11, [12]), (4, .aload_n 0, []), (5, .getfield 26, [11, 3, 2]), (8, .getfield 63, [10, 4, 0]), (11, .ireturn, [])]),
  (12, [true, true], [(12, .iload_n 1, []), (13, .iconst 1, []), (14, .if_icmp .ne 13, [27]), (17, .aload_n 0, []), (18, .getfield 26, [11, 3, 2]), (21, .getfield 102, [10, 5, 0]), (24, .goto 4, [28])]),
  (27, [false, false], [(27, .iconst (-1), []), (28, .nop, [28])]),
  (28, [false, false], [(28, .ireturn, [])])]
def zv_b86 : List (Nat × List Bool × List zv_I) := [
  (0, [true, true, true], [(0, .iload_n 1, []), (1, .iload_n 2, []), (2, .invokestatic 105, [118, 2, 1]), (5, .ifCond .ne 5, [10]), (8, .iconst 0, []), (9, .ireturn, [])]),
  (10, [true, true, true], [(10, .aload_n 0, []), (11, .getfield 12, [11, 0, 2]), (14, .getfield 80, [9, 3, 2]), (17, .iload_n 1, []), (18, .iload_n 2, []), (19, .iastore, []), (20, .iload_n 1, []), (21, .ifCond .eq 8, [29]), (24, .iload_n 1, []), (25, .iconst 1, []), (26, .if_icmp .ne 17, [43]), (29, .nop, [29])]),
  (29, [true, false, false], [(29, .aload_n 0, []), (30, .getfield 12, [11, 0, 2]), (33, .getfield 87, [9, 5, 2]), (36, .invokevirtual 91, [2, 0, 0]), (39, .aload_n 0, []), (40, .invokevirtual 96, [113, 0, 0]), (43, .nop, [43])]),
  (43, [false, false, false], [(43, .iconst 1, []), (44, .ireturn, [])])]
def zv_b87 : List (Nat × List Bool × List zv_I) := [
  (0, [true, true, false], [(0, .iload_n 1, []), (1, .invokestatic 109, [117, 1, 1]), (4, .ifCond .eq 18, [22]), (7, .aload_n 0, []), (8, .getfield 12, [11, 0, 2]), (11, .getfield 66, [9, 0, 2]), (14, .iload_n 1, []), (15, .iconst 1, []), (16, .invokevirtual 113, [24, 2, 1]), (19, .ifCond .ne 5, [24]), (22, .nop, [22])]),
  (22, [false, false, false], [(22, .iconst (-1), []), (23, .ireturn, [])]),
  (24, [true, true, false], [(24, .aload_n 0, []), (25, .getfield 12, [11, 0, 2]), (28, .getfield 66, [9, 0, 2]), (31, .iload_n 1, []), (32, .invokevirtual 116, [23, 1, 1]), (35, .ifCond .ne 7, [42]), (38, .iconst 1, []), (39, .goto 4, [43])]),
  (42, [true, true, false], [(42, .iconst 0, []), (43, .nop, [43])]),
  (43, [true, true, false], [(43, .istore_n 2, []), (44, .aload_n 0, []), (45, .getfield 12, [11, 0, 2]), (48, .getfield 66, [9, 0, 2]), (51, .iload_n 1, []), (52, .iconst 1, []), (53, .invokevirtual 119, [25, 2, 0]), (56, .aload_n 0, []), (57, .getfield 12, [11, 0, 2]), (60, .getfield 87, [9, 5, 2]), (63, .iload_n 1, []), (64, .iconst 1, []), (65, .invokevirtual 123, [3, 2, 0]), (68, .iload_n 2, []), (69, .ifCond .eq 37, [106]), (72, .aload_n 0, []), (73, .getfield 12, [11, 0, 2]), (76, .iload_n 1, []), (77, .invokevirtual 126, [59, 1, 1]), (80, .ifCond .ne 26, [106]), (83, .aload_n 0, []), (84, .getfield 12, [11, 0, 2]), (87, .invokevirtual 129, [61, 0, 1]), (90, .aload_n 0, []), (91, .getfield 12, [11, 0, 2]), (94, .getfield 80, [9, 3, 2]), (97, .iconst 2, []), (98, .iaload, []), (99, .if_icmp .le 7, [106]), (102, .aload_n 0, []), (103, .invokevirtual 96, [113, 0, 0]), (106, .nop, [106])]),
  (106, [true, true, false], [(106, .aload_n 0, []), (107, .getfield 12, [11, 0, 2]), (110, .getfield 66, [9, 0, 2]), (113, .iload_n 1, []), (114, .invokevirtual 133, [22, 1, 1]), (117, .ireturn, [])])]
def zv_b88 : List (Nat × List Bool × List zv_I) := [
  (0, [true, true], [(0, .aload_n 0, []), (1, .getfield 12, [11, 0, 2]), (4, .getfield 66, [9, 0, 2]), (7, .iload_n 1, []), (8, .invokevirtual 116, [23, 1, 1]), (11, .ifCond .ne 5, [16]), (14, .iconst (-1), []), (15, .ireturn, [])]),
  (16, [true, true], [(16, .aload_n 0, []), (17, .getfield 12, [11, 0, 2]), (20, .getfield 66, [9, 0, 2]), (23, .iload_n 1, []), (24, .iconst (-1), []), (25, .invokevirtual 119, [25, 2, 0]), (28, .aload_n 0, []), (29, .getfield 12, [11, 0, 2]), (32, .getfield 87, [9, 5, 2]), (35, .iload_n 1, []), (36, .iconst (-1), []), (37, .invokevirtual 123, [3, 2, 0]), (40, .aload_n 0, []), (41, .getfield 12, [11, 0, 2]), (44, .getfield 66, [9, 0, 2]), (47, .iload_n 1, []), (48, .invokevirtual 133, [22, 1, 1]), (51, .ireturn, [])])]
def zv_b89 : List (Nat × List Bool × List zv_I) := [
  (0, [true, true, false, false, false], [(0, .aload_n 0, []), (1, .getfield 12, [11, 0, 2]), (4, .getfield 87, [9, 5, 2]), (7, .iload_n 1, []), (8, .invokevirtual 137, [4, 1, 1]), (11, .istore_n 2, []), (12, .iload_n 2, []), (13, .ifCond .lt 9, [22]), (16, .iload_n 2, []), (17, .bipush 20, []), (19, .if_icmp .lt 6, [25]), (22, .nop, [22])]),
  (22, [false, false, false, false, false], [(22, .ldc 141, [0, 3294967295]), (24, .ireturn, [])]),
  (25, [true, true, true, false, false], [(25, .aload_n 0, []), (26, .getfield 12, [11, 0, 2]), (29, .getfield 87, [9, 5, 2]), (32, .getfield 142, [0, 0, 2]), (35, .iload_n 2, []), (36, .iaload, []), (37, .istore_n 3, []), (38, .aload_n 0, []), (39, .getfield 12, [11, 0, 2]), (42, .getfield 87, [9, 5, 2]), (45, .getfield 144, [0, 1, 2]), (48, .iload_n 2, []), (49, .iaload, []), (50, .istore 4, []), (52, .aload_n 0, []), (53, .getfield 12, [11, 0, 2]), (56, .getfield 66, [9, 0, 2]), (59, .iload_n 3, []), (60, .iload_n 1, []), (61, .ifCond .eq 9, [70]), (64, .iload 4, []), (66, .ineg, []), (67, .goto 5, [72])]),
  (70, [false, false, false, true, true], [(70, .iload 4, []), (72, .nop, [72])]),
  (72, [false, false, false, true, false], [(72, .invokevirtual 119, [25, 2, 0]), (75, .iload_n 3, []), (76, .ireturn, [])])]
def zv_b90 : List (Nat × List Bool × List zv_I) := [
  (0, [true], [(0, .aload_n 0, []), (1, .getfield 12, [11, 0, 2]), (4, .getfield 87, [9, 5, 2]), (7, .invokevirtual 91, [2, 0, 0]), (10, .aload_n 0, []), (11, .invokevirtual 96, [113, 0, 0]), (14, .aload_n 0, []), (15, .getfield 12, [11, 0, 2]), (18, .getfield 147, [9, 2, 0]), (21, .ireturn, [])])]
def zv_b91 : List (Nat × List Bool × List zv_I) := [
  (0, [true, true], [(0, .aload_n 0, []), (1, .getfield 12, [11, 0, 2]), (4, .getfield 66, [9, 0, 2]), (7, .iload_n 1, []), (8, .invokevirtual 133, [22, 1, 1]), (11, .ireturn, [])])]
def zv_b92 : List (Nat × List Bool × List zv_I) := [
  (0, [true, true], [(0, .iload_n 1, []), (1, .ifCond .lt 32, [33]), (4, .iload_n 1, []), (5, .aload_n 0, []), (6, .getfield 12, [11, 0, 2]), (9, .getfield 66, [9, 0, 2]), (12, .getfield 99, [4, 2, 0]), (15, .if_icmp .ge 18, [33]), (18, .aload_n 0, []), (19, .getfield 12, [11, 0, 2]), (22, .getfield 66, [9, 0, 2]), (25, .getfield 150, [4, 0, 2]), (28, .iload_n 1, []), (29, .iaload, []), (30, .goto 5, [35])]),
  (33, [false, false], [(33, .ldc 141, [0, 3294967295]), (35, .nop, [35])]),
  (35, [false, false], [(35, .ireturn, [])])]
def zv_b93 : List (Nat × List Bool × List zv_I) := [
  (0, [true, true], [(0, .aload_n 0, []), (1, .getfield 12, [11, 0, 2]), (4, .getfield 66, [9, 0, 2]), (7, .iload_n 1, []), (8, .invokevirtual 151, [21, 1, 1]), (11, .ireturn, [])])]
def zv_b94 : List (Nat × List Bool × List zv_I) := [
  (0, [true, true, true, true, false, false, false, false], [(0, .iload_n 3, []), (1, .ifCond .lt 8, [9]), (4, .iload_n 3, []), (5, .iconst 2, []), (6, .if_icmp .le 7, [13]), (9, .nop, [9])]),
  (9, [false, false, false, false, false, false, false, false], [(9, .ldc2_w 154, [18446744073709551615]), (12, .lreturn, [])]),
  (13, [true, true, true, true, false, false, false, false], [(13, .aload_n 0, []), (14, .getfield 12, [11, 0, 2]), (17, .getfield 66, [9, 0, 2]), (20, .astore 4, []), (22, .lconst 0, []), (23, .lstore 5, []), (25, .aload 4, []), (27, .iload_n 1, []), (28, .invokevirtual 151, [21, 1, 1]), (31, .istore 7, []), (33, .nop, [33])]),
  (33, [false, false, true, true, true, true, false, true], [(33, .iload 7, []), (35, .aload 4, []), (37, .getfield 99, [4, 2, 0]), (40, .if_icmp .ge 75, [115]), (43, .aload 4, []), (45, .getfield 150, [4, 0, 2]), (48, .iload 7, []), (50, .iaload, []), (51, .iload_n 2, []), (52, .if_icmp .gt 63, [115]), (55, .iload_n 3, []), (56, .ifCond .ne 12, [68]), (59, .lload 5, []), (61, .lconst 1, []), (62, .ladd, []), (63, .lstore 5, []), (65, .goto 44, [109])]),
  (68, [false, false, true, true, true, true, false, true], [(68, .lload 5, []), (70, .iload_n 3, []), (71, .iconst 1, []), (72, .if_icmp .ne 15, [87]), (75, .aload 4, []), (77, .getfield 156, [4, 1, 2]), (80, .iload 7, []), (82, .iaload, []), (83, .i2l, []), (84, .goto 22, [106])]),
  (87, [false, false, true, true, true, false, false, true], [(87, .aload 4, []), (89, .getfield 150, [4, 0, 2]), (92, .iload 7, []), (94, .iaload, []), (95, .i2l, []), (96, .aload 4, []), (98, .getfield 156, [4, 1, 2]), (101, .iload 7, []), (103, .iaload, []), (104, .i2l, []), (105, .lmul, []), (106, .nop, [106])]),
  (106, [false, false, true, true, true, false, false, true], [(106, .ladd, []), (107, .lstore 5, []), (109, .nop, [109])]),
  (109, [false, false, true, true, true, true, false, true], [(109, .iinc 7 1, []), (112, .goto (-79), [33])]),
  (115, [false, false, false, false, false, true, false, false], [(115, .lload 5, []), (117, .lreturn, [])])]
def zv_b95 : List (Nat × List Bool × List zv_I) := [
  (0, [true, true, true, true, false], [(0, .aload_n 0, []), (1, .iload_n 1, []), (2, .iload_n 2, []), (3, .invokevirtual 159, [114, 2, 1]), (6, .ifCond .ne 6, [12]), (9, .ldc 141, [0, 3294967295]), (11, .ireturn, [])]),
  (12, [true, true, true, true, false], [(12, .aload_n 0, []), (13, .getfield 33, [11, 4, 2]), (16, .getfield 162, [1, 0, 2]), (19, .iload_n 1, []), (20, .aaload, []), (21, .astore 4, []), (23, .iload_n 3, []), (24, .tableswitch 74 0 4 #[36, 44, 51, 59, 67], [36, 98, 60, 68, 75, 83, 91])]),
  (60, [false, false, true, false, true], [(60, .aload 4, []), (62, .getfield 166, [5, 4, 2]), (65, .iload_n 2, []), (66, .iaload, []), (67, .ireturn, [])]),
  (68, [false, false, true, false, true], [(68, .aload 4, []), (70, .iload_n 2, []), (71, .invokevirtual 171, [34, 1, 1]), (74, .ireturn, [])]),
  (75, [false, false, true, false, true], [(75, .aload 4, []), (77, .getfield 174, [5, 5, 2]), (80, .iload_n 2, []), (81, .iaload, []), (82, .ireturn, [])]),
  (83, [false, false, true, false, true], [(83, .aload 4, []), (85, .getfield 177, [5, 6, 2]), (88, .iload_n 2, []), (89, .iaload, []), (90, .ireturn, [])]),
  (91, [false, false, true, false, true], [(91, .aload 4, []), (93, .iload_n 2, []), (94, .invokevirtual 180, [35, 1, 1]), (97, .ireturn, [])]),
  (98, [false, false, false, false, false], [(98, .ldc 141, [0, 3294967295]), (100, .ireturn, [])])]
def zv_b96 : List (Nat × List Bool × List zv_I) := [
  (0, [true, true, true, true], [(0, .aload_n 0, []), (1, .iload_n 1, []), (2, .iload_n 2, []), (3, .invokevirtual 159, [114, 2, 1]), (6, .ifCond .eq 20, [26]), (9, .aload_n 0, []), (10, .getfield 33, [11, 4, 2]), (13, .getfield 162, [1, 0, 2]), (16, .iload_n 1, []), (17, .aaload, []), (18, .iload_n 2, []), (19, .iload_n 3, []), (20, .invokevirtual 183, [36, 2, 1]), (23, .goto 4, [27])]),
  (26, [false, false, false, false], [(26, .iconst (-1), []), (27, .nop, [27])]),
  (27, [false, false, false, false], [(27, .ireturn, [])])]
def zv_b97 : List (Nat × List Bool × List zv_I) := [
  (0, [true, true, true, false], [(0, .iload_n 2, []), (1, .ifCond .lt 8, [9]), (4, .iload_n 2, []), (5, .iconst 2, []), (6, .if_icmp .le 5, [11]), (9, .nop, [9])]),
  (9, [false, false, false, false], [(9, .iconst (-1), []), (10, .ireturn, [])]),
  (11, [true, true, true, false], [(11, .iload_n 2, []), (12, .iconst 2, []), (13, .if_icmp .ne 14, [27]), (16, .aload_n 0, []), (17, .getfield 33, [11, 4, 2]), (20, .iload_n 1, []), (21, .invokevirtual 187, [8, 1, 1]), (24, .goto 11, [35])]),
  (27, [true, true, true, false], [(27, .aload_n 0, []), (28, .getfield 33, [11, 4, 2]), (31, .iload_n 1, []), (32, .invokevirtual 190, [7, 1, 1]), (35, .nop, [35])]),
  (35, [true, false, true, false], [(35, .istore_n 3, []), (36, .iload_n 2, []), (37, .ifCond .ne 7, [44]), (40, .iload_n 3, []), (41, .goto 10, [51])]),
  (44, [true, false, false, false], [(44, .aload_n 0, []), (45, .getfield 33, [11, 4, 2]), (48, .getfield 193, [1, 3, 0]), (51, .nop, [51])]),
  (51, [false, false, false, false], [(51, .ireturn, [])])]
def zv_b98 : List (Nat × List Bool × List zv_I) := [
  (0, [true, true], [(0, .iload_n 1, []), (1, .ifCond .ne 20, [21]), (4, .aload_n 0, []), (5, .getfield 33, [11, 4, 2]), (8, .aload_n 0, []), (9, .getfield 12, [11, 0, 2]), (12, .getfield 80, [9, 3, 2]), (15, .iconst 3, []), (16, .iaload, []), (17, .invokevirtual 196, [12, 1, 1]), (20, .ireturn, [])]),
  (21, [true, true], [(21, .iload_n 1, []), (22, .iconst 1, []), (23, .if_icmp .ne 20, [43]), (26, .aload_n 0, []), (27, .getfield 12, [11, 0, 2]), (30, .getfield 147, [9, 2, 0]), (33, .aload_n 0, []), (34, .invokevirtual 199, [115, 0, 1]), (37, .iconst 1, []), (38, .iadd, []), (39, .imul, []), (40, .goto 4, [44])]),
  (43, [false, false], [(43, .iconst (-1), []), (44, .nop, [44])]),
  (44, [false, false], [(44, .ireturn, [])])]
def zv_b99 : List (Nat × List Bool × List zv_I) := [
  (0, [true, true, true, false, false, false, false, false, false, false], [(0, .iload_n 1, []), (1, .ifCond .lt 23, [24]), (4, .iload_n 1, []), (5, .aload_n 0, []), (6, .getfield 33, [11, 4, 2]), (9, .getfield 202, [1, 2, 0]), (12, .if_icmp .ge 12, [24]), (15, .iload_n 2, []), (16, .ifCond .lt 8, [24]), (19, .iload_n 2, []), (20, .iconst 2, []), (21, .if_icmp .le 5, [26]), (24, .nop, [24])]),
  (24, [false, false, false, false, false, false, false, false, false, false], [(24, .iconst (-1), []), (25, .ireturn, [])]),
  (26, [true, true, true, false, false, false, false, false, false, false], [(26, .aload_n 0, []), (27, .getfield 33, [11, 4, 2]), (30, .getfield 162, [1, 0, 2]), (33, .iload_n 1, []), (34, .aaload, []), (35, .astore_n 3, []), (36, .iconst 0, []), (37, .istore 4, []), (39, .iconst 0, []), (40, .istore 5, []), (42, .iconst 0, []), (43, .istore 6, []), (45, .iconst 0, []), (46, .istore 7, []), (48, .nop, [48])]),
  (48, [false, false, true, true, true, true, true, true, false, false], [(48, .iload 7, []), (50, .aload_n 3, []), (51, .getfield 205, [5, 3, 0]), (54, .if_icmp .ge 78, [132]), (57, .aload_n 3, []), (58, .getfield 166, [5, 4, 2]), (61, .iload 7, []), (63, .iaload, []), (64, .istore 8, []), (66, .nop, [66])]),
  (66, [false, false, true, true, true, true, true, true, true, false], [(66, .iload 8, []), (68, .aload_n 3, []), (69, .iload 7, []), (71, .invokevirtual 171, [34, 1, 1]), (74, .if_icmp .gt 52, [126]), (77, .aload_n 3, []), (78, .iload 7, []), (80, .aload_n 3, []), (81, .getfield 208, [5, 0, 2]), (84, .iload 8, []), (86, .iaload, []), (87, .invokevirtual 183, [36, 2, 1]), (90, .iload 8, []), (92, .isub, []), (93, .invokestatic 211, [196, 1, 1]), (96, .istore 9, []), (98, .iload 5, []), (100, .iload 9, []), (102, .iadd, []), (103, .istore 5, []), (105, .iload 9, []), (107, .iload 4, []), (109, .if_icmp .le 11, [120]), (112, .iload 9, []), (114, .istore 4, []), (116, .iload 8, []), (118, .istore 6, []), (120, .nop, [120])]),
  (120, [false, false, true, true, true, true, true, true, true, false], [(120, .iinc 8 1, []), (123, .goto (-57), [66])]),
  (126, [false, false, true, true, true, true, true, true, false, false], [(126, .iinc 7 1, []), (129, .goto (-81), [48])]),
  (132, [false, false, true, false, true, true, true, false, false, false], [(132, .iload_n 2, []), (133, .ifCond .ne 6, [139]), (136, .iload 4, []), (138, .ireturn, [])]),
  (139, [false, false, true, false, false, true, true, false, false, false], [(139, .iload_n 2, []), (140, .iconst 1, []), (141, .if_icmp .ne 8, [149]), (144, .iload 5, []), (146, .goto 5, [151])]),
  (149, [false, false, false, false, false, false, true, false, false, false], [(149, .iload 6, []), (151, .nop, [151])]),
  (151, [false, false, false, false, false, false, false, false, false, false], [(151, .ireturn, [])])]
def zv_b100 : List (Nat × List Bool × List zv_I) := [
  (0, [true, true, false, false, false, false], [(0, .iload_n 1, []), (1, .ifCond .eq 10, [11]), (4, .iload_n 1, []), (5, .iconst 1, []), (6, .if_icmp .eq 5, [11]), (9, .iconst (-1), []), (10, .ireturn, [])]),
  (11, [true, true, false, false, false, false], [(11, .iconst 0, []), (12, .istore_n 2, []), (13, .iconst 0, []), (14, .istore_n 3, []), (15, .getstatic 216, [0, 2]), (18, .iconst 0, []), (19, .iaload, []), (20, .istore 4, []), (22, .nop, [22])]),
  (22, [true, true, true, true, true, false], [(22, .iload 4, []), (24, .getstatic 219, [0, 3]), (27, .iconst 0, []), (28, .iaload, []), (29, .if_icmp .gt 80, [109]), (32, .aload_n 0, []), (33, .getfield 37, [11, 5, 2]), (36, .aload_n 0, []), (37, .getfield 12, [11, 0, 2]), (40, .getfield 222, [9, 1, 2]), (43, .aload_n 0, []), (44, .getfield 12, [11, 0, 2]), (47, .getfield 147, [9, 2, 0]), (50, .iload 4, []), (52, .aload_n 0, []), (53, .getfield 12, [11, 0, 2]), (56, .getfield 80, [9, 3, 2]), (59, .iconst 1, []), (60, .iaload, []), (61, .invokevirtual 223, [6, 4, 0]), (64, .aload_n 0, []), (65, .getfield 37, [11, 5, 2]), (68, .invokevirtual 227, [10, 0, 1]), (71, .aload_n 0, []), (72, .getfield 37, [11, 5, 2]), (75, .invokevirtual 230, [11, 0, 1]), (78, .iadd, []), (79, .istore 5, []), (81, .iload 4, []), (83, .getstatic 216, [0, 2]), (86, .iconst 0, []), (87, .iaload, []), (88, .if_icmp .eq 9, [97]), (91, .iload 5, []), (93, .iload_n 3, []), (94, .if_icmp .ge 9, [103]), (97, .nop, [97])]),
  (97, [true, true, false, false, true, true], [(97, .iload 4, []), (99, .istore_n 2, []), (100, .iload 5, []), (102, .istore_n 3, []), (103, .nop, [103])]),
  (103, [true, true, true, true, true, false], [(103, .iinc 4 1, []), (106, .goto (-84), [22])]),
  (109, [false, true, true, true, false, false], [(109, .iload_n 1, []), (110, .ifCond .ne 7, [117]), (113, .iload_n 2, []), (114, .goto 4, [118])]),
  (117, [false, false, false, true, false, false], [(117, .iload_n 3, []), (118, .nop, [118])]),
  (118, [false, false, false, false, false, false], [(118, .ireturn, [])])]
def zv_b101 : List (Nat × List Bool × List zv_I) := [
  (0, [true], [(0, .aload_n 0, []), (1, .getfield 12, [11, 0, 2]), (4, .getfield 233, [9, 6, 2]), (7, .aload_n 0, []), (8, .getfield 12, [11, 0, 2]), (11, .getfield 66, [9, 0, 2]), (14, .invokevirtual 237, [16, 1, 1]), (17, .ireturn, [])])]
def zv_b102 : List (Nat × List Bool × List zv_I) := [
  (0, [true, true], [(0, .iload_n 1, []), (1, .invokestatic 109, [117, 1, 1]), (4, .ifCond .eq 17, [21]), (7, .aload_n 0, []), (8, .getfield 12, [11, 0, 2]), (11, .getfield 233, [9, 6, 2]), (14, .iload_n 1, []), (15, .invokevirtual 243, [17, 1, 1]), (18, .goto 4, [22])]),
  (21, [false, false], [(21, .iconst (-1), []), (22, .nop, [22])]),
  (22, [false, false], [(22, .ireturn, [])])]
def zv_b103 : List (Nat × List Bool × List zv_I) := [
  (0, [true, true], [(0, .iload_n 1, []), (1, .ifCond .lt 24, [25]), (4, .iload_n 1, []), (5, .bipush 64, []), (7, .if_icmp .ge 18, [25]), (10, .aload_n 0, []), (11, .getfield 12, [11, 0, 2]), (14, .getfield 233, [9, 6, 2]), (17, .getfield 246, [3, 0, 2]), (20, .iload_n 1, []), (21, .iaload, []), (22, .goto 5, [27])]),
  (25, [false, false], [(25, .ldc 141, [0, 3294967295]), (27, .nop, [27])]),
  (27, [false, false], [(27, .ireturn, [])])]
def zv_b104 : List (Nat × List Bool × List zv_I) := [
  (0, [true, true, false, false, false, false, false, false], [(0, .iload_n 1, []), (1, .ifCond .eq 10, [11]), (4, .iload_n 1, []), (5, .iconst 1, []), (6, .if_icmp .eq 5, [11]), (9, .iconst (-1), []), (10, .ireturn, [])]),
  (11, [true, true, false, false, false, false, false, false], [(11, .aload_n 0, []), (12, .getfield 12, [11, 0, 2]), (15, .getfield 66, [9, 0, 2]), (18, .astore_n 2, []), (19, .aload_n 0, []), (20, .getfield 37, [11, 5, 2]), (23, .aload_n 2, []), (24, .getfield 150, [4, 0, 2]), (27, .aload_n 2, []), (28, .getfield 99, [4, 2, 0]), (31, .aload_n 0, []), (32, .getfield 12, [11, 0, 2]), (35, .getfield 80, [9, 3, 2]), (38, .iconst 0, []), (39, .iaload, []), (40, .aload_n 0, []), (41, .getfield 12, [11, 0, 2]), (44, .getfield 80, [9, 3, 2]), (47, .iconst 1, []), (48, .iaload, []), (49, .invokevirtual 223, [6, 4, 0]), (52, .ldc 141, [0, 3294967295]), (54, .istore_n 3, []), (55, .iconst 0, []), (56, .istore 4, []), (58, .iconst 0, []), (59, .istore 5, []), (61, .nop, [61])]),
  (61, [true, true, true, true, true, true, false, false], [(61, .iload 5, []), (63, .iconst 2, []), (64, .aload_n 2, []), (65, .getfield 99, [4, 2, 0]), (68, .imul, []), (69, .if_icmp .ge 72, [141]), (72, .aload_n 2, []), (73, .getfield 150, [4, 0, 2]), (76, .iload 5, []), (78, .iconst 2, []), (79, .idiv, []), (80, .iaload, []), (81, .iload 5, []), (83, .iconst 2, []), (84, .irem, []), (85, .ifCond .ne 7, [92]), (88, .iconst (-1), []), (89, .goto 4, [93])]),
  (92, [true, true, true, true, true, true, false, false], [(92, .iconst 1, []), (93, .nop, [93])]),
  (93, [true, true, true, true, true, true, false, false], [(93, .iadd, []), (94, .istore 6, []), (96, .iload 6, []), (98, .invokestatic 109, [117, 1, 1]), (101, .ifCond .eq 34, [135]), (104, .aload_n 2, []), (105, .iload 6, []), (107, .invokevirtual 116, [23, 1, 1]), (110, .ifCond .ne 25, [135]), (113, .aload_n 0, []), (114, .iload 6, []), (116, .invokevirtual 249, [116, 1, 1]), (119, .istore 7, []), (121, .iload 7, []), (123, .iload 4, []), (125, .if_icmp .le 10, [135]), (128, .iload 7, []), (130, .istore 4, []), (132, .iload 6, []), (134, .istore_n 3, []), (135, .nop, [135])]),
  (135, [true, true, true, true, true, true, false, false], [(135, .iinc 5 1, []), (138, .goto (-77), [61])]),
  (141, [false, true, false, true, true, false, false, false], [(141, .iload_n 1, []), (142, .ifCond .ne 7, [149]), (145, .iload_n 3, []), (146, .goto 5, [151])]),
  (149, [false, false, false, false, true, false, false, false], [(149, .iload 4, []), (151, .nop, [151])]),
  (151, [false, false, false, false, false, false, false, false], [(151, .ireturn, [])])]
def zv_b105 : List (Nat × List Bool × List zv_I) := [
  (0, [true, true, true], [(0, .aload_n 0, []), (1, .getfield 43, [11, 6, 2]), (4, .aload_n 0, []), (5, .getfield 12, [11, 0, 2]), (8, .iload_n 2, []), (9, .invokevirtual 252, [50, 2, 0]), (12, .aload_n 0, []), (13, .getfield 43, [11, 6, 2]), (16, .iload_n 1, []), (17, .invokevirtual 256, [51, 1, 1]), (20, .ireturn, [])])]
def zv_b106 : List (Nat × List Bool × List zv_I) := [
  (0, [true, true, true, true, false, false, false, false], [(0, .iload_n 2, []), (1, .i2l, []), (2, .iload_n 1, []), (3, .i2l, []), (4, .lsub, []), (5, .lconst 1, []), (6, .ladd, []), (7, .lstore 4, []), (9, .lload 4, []), (11, .lconst 1, []), (12, .lcmp, []), (13, .ifCond .lt 12, [25]), (16, .lload 4, []), (18, .ldc2_w 259, [5000]), (21, .lcmp, []), (22, .ifCond .le 5, [27]), (25, .nop, [25])]),
  (25, [false, false, false, false, false, false, false, false], [(25, .iconst (-1), []), (26, .ireturn, [])]),
  (27, [true, true, false, true, true, false, false, false], [(27, .aload_n 0, []), (28, .getfield 43, [11, 6, 2]), (31, .aload_n 0, []), (32, .getfield 12, [11, 0, 2]), (35, .iload_n 3, []), (36, .invokevirtual 252, [50, 2, 0]), (39, .iconst 0, []), (40, .istore 6, []), (42, .iconst 0, []), (43, .istore 7, []), (45, .nop, [45])]),
  (45, [true, true, false, false, true, false, true, true], [(45, .iload 7, []), (47, .i2l, []), (48, .lload 4, []), (50, .lcmp, []), (51, .ifCond .ge 43, [94]), (54, .aload_n 0, []), (55, .getfield 43, [11, 6, 2]), (58, .iload_n 1, []), (59, .iload 7, []), (61, .iadd, []), (62, .invokevirtual 256, [51, 1, 1]), (65, .ifCond .eq 23, [88]), (68, .aload_n 0, []), (69, .getfield 12, [11, 0, 2]), (72, .getfield 66, [9, 0, 2]), (75, .iload_n 1, []), (76, .iload 7, []), (78, .iadd, []), (79, .invokevirtual 116, [23, 1, 1]), (82, .ifCond .ne 6, [88]), (85, .iinc 6 1, []), (88, .nop, [88])]),
  (88, [true, true, false, false, true, false, true, true], [(88, .iinc 7 1, []), (91, .goto (-46), [45])]),
  (94, [false, false, false, false, false, false, true, false], [(94, .iload 6, []), (96, .ireturn, [])])]
def zv_b107 : List (Nat × List Bool × List zv_I) := [
  (0, [true, true, true], [(0, .aload_n 0, []), (1, .getfield 12, [11, 0, 2]), (4, .getfield 261, [9, 7, 2]), (7, .iload_n 1, []), (8, .iload_n 2, []), (9, .invokevirtual 265, [39, 2, 1]), (12, .ireturn, [])])]
def zv_b108 : List (Nat × List Bool × List zv_I) := [
  (0, [true, true, true, true, true], [(0, .aload_n 0, []), (1, .getfield 12, [11, 0, 2]), (4, .getfield 261, [9, 7, 2]), (7, .iload_n 1, []), (8, .iload_n 2, []), (9, .iload_n 3, []), (10, .iload 4, []), (12, .invokevirtual 270, [40, 4, 1]), (15, .ireturn, [])])]
def zv_b109 : List (Nat × List Bool × List zv_I) := [
  (0, [true, true, true], [(0, .iload_n 1, []), (1, .ifCond .lt 26, [27]), (4, .iload_n 1, []), (5, .aload_n 0, []), (6, .getfield 12, [11, 0, 2]), (9, .getfield 261, [9, 7, 2]), (12, .getfield 274, [6, 4, 0]), (15, .if_icmp .ge 12, [27]), (18, .iload_n 2, []), (19, .ifCond .lt 8, [27]), (22, .iload_n 2, []), (23, .iconst 3, []), (24, .if_icmp .le 5, [29]), (27, .nop, [27])]),
  (27, [false, false, false], [(27, .iconst (-1), []), (28, .ireturn, [])]),
  (29, [true, true, true], [(29, .iload_n 2, []), (30, .ifCond .ne 17, [47]), (33, .aload_n 0, []), (34, .getfield 12, [11, 0, 2]), (37, .getfield 261, [9, 7, 2]), (40, .iload_n 1, []), (41, .invokevirtual 277, [41, 1, 1]), (44, .goto 17, [61])]),
  (47, [true, true, true], [(47, .aload_n 0, []), (48, .getfield 12, [11, 0, 2]), (51, .getfield 261, [9, 7, 2]), (54, .iload_n 1, []), (55, .iload_n 2, []), (56, .iconst 1, []), (57, .isub, []), (58, .invokevirtual 280, [42, 2, 1]), (61, .nop, [61])]),
  (61, [false, false, false], [(61, .ireturn, [])])]
def zv_b110 : List (Nat × List Bool × List zv_I) := [
  (0, [true, false, false, false, false, false], [(0, .iconst 0, []), (1, .istore_n 1, []), (2, .iconst 0, []), (3, .istore_n 2, []), (4, .iconst 0, []), (5, .istore_n 3, []), (6, .nop, [6])]),
  (6, [true, true, true, true, false, false], [(6, .iload_n 3, []), (7, .iconst 3, []), (8, .if_icmp .ge 69, [77]), (11, .iconst 0, []), (12, .istore 4, []), (14, .iconst 0, []), (15, .istore 5, []), (17, .nop, [17])]),
  (17, [true, true, true, true, true, true], [(17, .iload 5, []), (19, .aload_n 0, []), (20, .getfield 12, [11, 0, 2]), (23, .getfield 261, [9, 7, 2]), (26, .getfield 274, [6, 4, 0]), (29, .if_icmp .ge 27, [56]), (32, .iload 4, []), (34, .aload_n 0, []), (35, .getfield 12, [11, 0, 2]), (38, .getfield 261, [9, 7, 2]), (41, .iload 5, []), (43, .iload_n 3, []), (44, .invokevirtual 280, [42, 2, 1]), (47, .iadd, []), (48, .istore 4, []), (50, .iinc 5 1, []), (53, .goto (-36), [17])]),
  (56, [true, true, true, true, true, false], [(56, .iload_n 3, []), (57, .ifCond .eq 9, [66]), (60, .iload 4, []), (62, .iload_n 2, []), (63, .if_icmp .ge 8, [71]), (66, .nop, [66])]),
  (66, [true, false, false, true, true, false], [(66, .iload_n 3, []), (67, .istore_n 1, []), (68, .iload 4, []), (70, .istore_n 2, []), (71, .nop, [71])]),
  (71, [true, true, true, true, false, false], [(71, .iinc 3 1, []), (74, .goto (-68), [6])]),
  (77, [false, true, false, false, false, false], [(77, .iload_n 1, []), (78, .ireturn, [])])]
def zv_b111 : List (Nat × List Bool × List zv_I) := [
  (0, [true, true], [(0, .iload_n 1, []), (1, .ifCond .eq 22, [23]), (4, .aload_n 0, []), (5, .getfield 16, [11, 1, 2]), (8, .aload_n 0, []), (9, .getfield 12, [11, 0, 2]), (12, .invokevirtual 283, [57, 1, 0]), (15, .aload_n 0, []), (16, .iconst 1, []), (17, .putfield 19, [11, 2, 3]), (20, .goto 60, [80])]),
  (23, [true, false], [(23, .aload_n 0, []), (24, .getfield 19, [11, 2, 3]), (27, .ifCond .eq 53, [80]), (30, .aload_n 0, []), (31, .getfield 12, [11, 0, 2]), (34, .aload_n 0, []), (35, .getfield 16, [11, 1, 2]), (38, .invokevirtual 283, [57, 1, 0]), (41, .aload_n 0, []), (42, .getfield 33, [11, 4, 2]), (45, .aload_n 0, []), (46, .getfield 12, [11, 0, 2]), (49, .getfield 222, [9, 1, 2]), (52, .aload_n 0, []), (53, .getfield 12, [11, 0, 2]), (56, .getfield 147, [9, 2, 0]), (59, .aload_n 0, []), (60, .getfield 12, [11, 0, 2]), (63, .getfield 80, [9, 3, 2]), (66, .iconst 0, []), (67, .iaload, []), (68, .aload_n 0, []), (69, .getfield 12, [11, 0, 2]), (72, .getfield 80, [9, 3, 2]), (75, .iconst 1, []), (76, .iaload, []), (77, .invokevirtual 223, [6, 4, 0]), (80, .nop, [80])]),
  (80, [true, false], [(80, .aload_n 0, []), (81, .getfield 19, [11, 2, 3]), (84, .ireturn, [])])]
def zv_b112 : List (Nat × List Bool × List zv_I) := [
  (0, [true, true], [(0, .iload_n 1, []), (1, .bipush 10, []), (3, .if_icmp .lt 33, [36]), (6, .iload_n 1, []), (7, .bipush 10, []), (9, .aload_n 0, []), (10, .getfield 33, [11, 4, 2]), (13, .getfield 202, [1, 2, 0]), (16, .iadd, []), (17, .if_icmp .ge 19, [36]), (20, .aload_n 0, []), (21, .getfield 33, [11, 4, 2]), (24, .getfield 162, [1, 0, 2]), (27, .iload_n 1, []), (28, .bipush 10, []), (30, .isub, []), (31, .aaload, []), (32, .getfield 205, [5, 3, 0]), (35, .ireturn, [])]),
  (36, [true, true], [(36, .iload_n 1, []), (37, .bipush 20, []), (39, .if_icmp .lt 22, [61]), (42, .iload_n 1, []), (43, .bipush 28, []), (45, .if_icmp .ge 16, [61]), (48, .aload_n 0, []), (49, .getfield 12, [11, 0, 2]), (52, .getfield 80, [9, 3, 2]), (55, .iload_n 1, []), (56, .bipush 20, []), (58, .isub, []), (59, .iaload, []), (60, .ireturn, [])]),
  (61, [true, true], [(61, .iload_n 1, []), (62, .tableswitch 157 0 9 #[54, 65, 73, 81, 97, 105, 113, 124, 135, 146], [54, 219, 116, 127, 135, 143, 159, 167, 175, 186, 197, 208])]),
  (116, [true, false], [(116, .aload_n 0, []), (117, .getfield 12, [11, 0, 2]), (120, .getfield 66, [9, 0, 2]), (123, .getfield 99, [4, 2, 0]), (126, .ireturn, [])]),
  (127, [true, false], [(127, .aload_n 0, []), (128, .getfield 12, [11, 0, 2]), (131, .getfield 147, [9, 2, 0]), (134, .ireturn, [])]),
  (135, [true, false], [(135, .aload_n 0, []), (136, .getfield 12, [11, 0, 2]), (139, .invokevirtual 129, [61, 0, 1]), (142, .ireturn, [])]),
  (143, [true, false], [(143, .aload_n 0, []), (144, .getfield 12, [11, 0, 2]), (147, .getfield 147, [9, 2, 0]), (150, .aload_n 0, []), (151, .getfield 12, [11, 0, 2]), (154, .invokevirtual 285, [60, 0, 1]), (157, .isub, []), (158, .ireturn, [])]),
  (159, [true, false], [(159, .aload_n 0, []), (160, .getfield 33, [11, 4, 2]), (163, .getfield 202, [1, 2, 0]), (166, .ireturn, [])]),
  (167, [true, false], [(167, .aload_n 0, []), (168, .getfield 12, [11, 0, 2]), (171, .getfield 288, [9, 4, 0]), (174, .ireturn, [])]),
  (175, [true, false], [(175, .aload_n 0, []), (176, .getfield 12, [11, 0, 2]), (179, .getfield 87, [9, 5, 2]), (182, .getfield 291, [0, 2, 0]), (185, .ireturn, [])]),
  (186, [true, false], [(186, .aload_n 0, []), (187, .getfield 12, [11, 0, 2]), (190, .getfield 87, [9, 5, 2]), (193, .getfield 294, [0, 3, 0]), (196, .ireturn, [])]),
  (197, [true, false], [(197, .aload_n 0, []), (198, .getfield 12, [11, 0, 2]), (201, .getfield 261, [9, 7, 2]), (204, .getfield 297, [6, 2, 0]), (207, .ireturn, [])]),
  (208, [true, false], [(208, .aload_n 0, []), (209, .getfield 12, [11, 0, 2]), (212, .getfield 261, [9, 7, 2]), (215, .getfield 274, [6, 4, 0]), (218, .ireturn, [])]),
  (219, [false, false], [(219, .iconst (-1), []), (220, .ireturn, [])])]
def zv_b113 : List (Nat × List Bool × List zv_I) := [
  (0, [true], [(0, .aload_n 0, []), (1, .getfield 12, [11, 0, 2]), (4, .invokevirtual 300, [58, 0, 0]), (7, .aload_n 0, []), (8, .getfield 33, [11, 4, 2]), (11, .aload_n 0, []), (12, .getfield 12, [11, 0, 2]), (15, .getfield 222, [9, 1, 2]), (18, .aload_n 0, []), (19, .getfield 12, [11, 0, 2]), (22, .getfield 147, [9, 2, 0]), (25, .aload_n 0, []), (26, .getfield 12, [11, 0, 2]), (29, .getfield 80, [9, 3, 2]), (32, .iconst 0, []), (33, .iaload, []), (34, .aload_n 0, []), (35, .getfield 12, [11, 0, 2]), (38, .getfield 80, [9, 3, 2]), (41, .iconst 1, []), (42, .iaload, []), (43, .invokevirtual 223, [6, 4, 0]), (46, .return_, [])])]
def zv_b114 : List (Nat × List Bool × List zv_I) := [
  (0, [true, true, true], [(0, .iload_n 1, []), (1, .ifCond .lt 38, [39]), (4, .iload_n 1, []), (5, .aload_n 0, []), (6, .getfield 33, [11, 4, 2]), (9, .getfield 202, [1, 2, 0]), (12, .if_icmp .ge 27, [39]), (15, .iload_n 2, []), (16, .ifCond .lt 23, [39]), (19, .iload_n 2, []), (20, .aload_n 0, []), (21, .getfield 33, [11, 4, 2]), (24, .getfield 162, [1, 0, 2]), (27, .iload_n 1, []), (28, .aaload, []), (29, .getfield 205, [5, 3, 0]), (32, .if_icmp .ge 7, [39]), (35, .iconst 1, []), (36, .goto 4, [40])]),
  (39, [false, false, false], [(39, .iconst 0, []), (40, .nop, [40])]),
  (40, [false, false, false], [(40, .ireturn, [])])]
def zv_b115 : List (Nat × List Bool × List zv_I) := [
  (0, [true, false, false, false], [(0, .iconst 0, []), (1, .istore_n 1, []), (2, .lconst 1, []), (3, .lstore_n 2, []), (4, .nop, [4])]),
  (4, [true, true, true, false], [(4, .lload_n 2, []), (5, .aload_n 0, []), (6, .getfield 12, [11, 0, 2]), (9, .getfield 147, [9, 2, 0]), (12, .i2l, []), (13, .lcmp, []), (14, .ifCond .ge 29, [43]), (17, .iload_n 1, []), (18, .sipush 300, []), (21, .if_icmp .ge 22, [43]), (24, .lload_n 2, []), (25, .aload_n 0, []), (26, .getfield 12, [11, 0, 2]), (29, .getfield 80, [9, 3, 2]), (32, .iconst 4, []), (33, .iaload, []), (34, .i2l, []), (35, .lmul, []), (36, .lstore_n 2, []), (37, .iinc 1 1, []), (40, .goto (-36), [4])]),
  (43, [false, true, false, false], [(43, .iload_n 1, []), (44, .ireturn, [])])]
def zv_b116 : List (Nat × List Bool × List zv_I) := [
  (0, [true, true, false, false, false, false, false, false, false], [(0, .aload_n 0, []), (1, .getfield 12, [11, 0, 2]), (4, .getfield 66, [9, 0, 2]), (7, .astore_n 2, []), (8, .aload_n 0, []), (9, .getfield 37, [11, 5, 2]), (12, .getfield 162, [1, 0, 2]), (15, .iconst 0, []), (16, .aaload, []), (17, .astore_n 3, []), (18, .aload_n 2, []), (19, .iload_n 1, []), (20, .invokevirtual 151, [21, 1, 1]), (23, .istore 4, []), (25, .aload_n 2, []), (26, .getfield 150, [4, 0, 2]), (29, .iconst 0, []), (30, .aload_n 0, []), (31, .getfield 47, [11, 7, 2]), (34, .iconst 0, []), (35, .iload 4, []), (37, .invokestatic 81, [1000]), (40, .aload_n 0, []), (41, .getfield 47, [11, 7, 2]), (44, .iload 4, []), (46, .iload_n 1, []), (47, .iastore, []), (48, .aload_n 2, []), (49, .getfield 150, [4, 0, 2]), (52, .iload 4, []), (54, .aload_n 0, []), (55, .getfield 47, [11, 7, 2]), (58, .iload 4, []), (60, .iconst 1, []), (61, .iadd, []), (62, .aload_n 2, []), (63, .getfield 99, [4, 2, 0]), (66, .iload 4, []), (68, .isub, []), (69, .invokestatic 81, [1000]), (72, .iconst 0, []), (73, .istore 5, []), (75, .nop, [75])]),
  (75, [true, false, true, true, true, true, false, false, false], [(75, .iload 5, []), (77, .iconst 1, []), (78, .iadd, []), (79, .aload_n 3, []), (80, .getfield 205, [5, 3, 0]), (83, .if_icmp .ge 23, [106]), (86, .aload_n 3, []), (87, .getfield 166, [5, 4, 2]), (90, .iload 5, []), (92, .iconst 1, []), (93, .iadd, []), (94, .iaload, []), (95, .iload 4, []), (97, .if_icmp .ge 9, [106]), (100, .iinc 5 1, []), (103, .goto (-28), [75])]),
  (106, [true, false, true, true, true, true, false, false, false], [(106, .iload 5, []), (108, .istore 6, []), (110, .aload_n 3, []), (111, .getfield 166, [5, 4, 2]), (114, .iload 5, []), (116, .iaload, []), (117, .istore 7, []), (119, .iconst 0, []), (120, .istore 8, []), (122, .nop, [122])]),
  (122, [true, false, true, true, true, true, true, true, true], [(122, .iload 8, []), (124, .aload_n 2, []), (125, .getfield 99, [4, 2, 0]), (128, .if_icmp .gt 126, [254]), (131, .iload 7, []), (133, .aload_n 2, []), (134, .getfield 99, [4, 2, 0]), (137, .if_icmp .gt 117, [254]), (140, .aload_n 0, []), (141, .getfield 37, [11, 5, 2]), (144, .getfield 303, [1, 1, 2]), (147, .aload_n 0, []), (148, .getfield 47, [11, 7, 2]), (151, .iload 7, []), (153, .aload_n 2, []), (154, .getfield 99, [4, 2, 0]), (157, .iconst 1, []), (158, .iadd, []), (159, .aload_n 0, []), (160, .getfield 12, [11, 0, 2]), (163, .getfield 80, [9, 3, 2]), (166, .iconst 0, []), (167, .iaload, []), (168, .invokevirtual 307, [14, 4, 1]), (171, .iconst 1, []), (172, .iadd, []), (173, .istore 7, []), (175, .iinc 6 1, []), (178, .nop, [178])]),
  (178, [true, false, true, true, true, true, true, true, true], [(178, .iload 5, []), (180, .aload_n 3, []), (181, .getfield 205, [5, 3, 0]), (184, .if_icmp .ge 23, [207]), (187, .aload_n 3, []), (188, .getfield 166, [5, 4, 2]), (191, .iload 5, []), (193, .iaload, []), (194, .iload 7, []), (196, .iconst 1, []), (197, .isub, []), (198, .if_icmp .ge 9, [207]), (201, .iinc 5 1, []), (204, .goto (-26), [178])]),
  (207, [true, false, true, true, true, true, true, true, true], [(207, .iload 7, []), (209, .iload 4, []), (211, .if_icmp .le 37, [248]), (214, .iload 5, []), (216, .aload_n 3, []), (217, .getfield 205, [5, 3, 0]), (220, .if_icmp .ge 28, [248]), (223, .aload_n 3, []), (224, .getfield 166, [5, 4, 2]), (227, .iload 5, []), (229, .iaload, []), (230, .iload 7, []), (232, .iconst 1, []), (233, .isub, []), (234, .if_icmp .ne 14, [248]), (237, .iload 6, []), (239, .aload_n 3, []), (240, .getfield 205, [5, 3, 0]), (243, .iadd, []), (244, .iload 5, []), (246, .isub, []), (247, .ireturn, [])]),
  (248, [true, false, true, true, true, true, true, true, true], [(248, .iinc 8 1, []), (251, .goto (-129), [122])]),
  (254, [false, false, false, false, false, false, true, false, false], [(254, .iload 6, []), (256, .ireturn, [])])]
def zv_b117 : List (Nat × List Bool × List zv_I) := [
  (0, [true], [(0, .iload_n 0, []), (1, .ldc_w 313, [0, 3294967297]), (4, .if_icmp .lt 14, [18]), (7, .iload_n 0, []), (8, .ldc_w 314, [0, 999999999]), (11, .if_icmp .gt 7, [18]), (14, .iconst 1, []), (15, .goto 4, [19])]),
  (18, [false], [(18, .iconst 0, []), (19, .nop, [19])]),
  (19, [false], [(19, .ireturn, [])])]
def zv_b118 : List (Nat × List Bool × List zv_I) := [
  (0, [true, true], [(0, .iload_n 0, []), (1, .ifCond .lt 31, [32]), (4, .iload_n 0, []), (5, .bipush 8, []), (7, .if_icmp .ge 25, [32]), (10, .iload_n 1, []), (11, .getstatic 216, [0, 2]), (14, .iload_n 0, []), (15, .iaload, []), (16, .if_icmp .lt 16, [32]), (19, .iload_n 1, []), (20, .getstatic 219, [0, 3]), (23, .iload_n 0, []), (24, .iaload, []), (25, .if_icmp .gt 7, [32]), (28, .iconst 1, []), (29, .goto 4, [33])]),
  (32, [false, false], [(32, .iconst 0, []), (33, .nop, [33])]),
  (33, [false, false], [(33, .ireturn, [])])]
def zv_b119 : List (Nat × List Bool × List zv_I) := [
  (0, [true, true, true, false, false, false, false], [(0, .iconst 0, []), (1, .istore_n 3, []), (2, .iload_n 1, []), (3, .istore 4, []), (5, .iconst 0, []), (6, .istore 5, []), (8, .nop, [8])]),
  (8, [true, false, true, true, true, true, false], [(8, .iload 5, []), (10, .bipush 32, []), (12, .if_icmp .ge 43, [55]), (15, .iload_n 3, []), (16, .iload 4, []), (18, .if_icmp .ge 37, [55]), (21, .iload_n 3, []), (22, .iload 4, []), (24, .iadd, []), (25, .iconst 2, []), (26, .idiv, []), (27, .istore 6, []), (29, .aload_n 0, []), (30, .iload 6, []), (32, .iaload, []), (33, .iload_n 2, []), (34, .if_icmp .ge 11, [45]), (37, .iload 6, []), (39, .iconst 1, []), (40, .iadd, []), (41, .istore_n 3, []), (42, .goto 7, [49])]),
  (45, [true, false, true, true, false, true, true], [(45, .iload 6, []), (47, .istore 4, []), (49, .nop, [49])]),
  (49, [true, false, true, true, true, true, false], [(49, .iinc 5 1, []), (52, .goto (-44), [8])]),
  (55, [false, false, false, true, false, false, false], [(55, .iload_n 3, []), (56, .ireturn, [])])]
def zv_b120 : List (Nat × List Bool × List zv_I) := [
  (0, [true], [(0, .aload_n 0, []), (1, .invokespecial 1, [1002]), (4, .aload_n 0, []), (5, .sipush 1668, []), (8, .newarray .int, [0]), (10, .putfield 7, [12, 0, 2]), (13, .aload_n 0, []), (14, .sipush 1668, []), (17, .newarray .int, [0]), (19, .putfield 13, [12, 1, 2]), (22, .aload_n 0, []), (23, .sipush 1668, []), (26, .newarray .int, [0]), (28, .putfield 16, [12, 2, 2]), (31, .aload_n 0, []), (32, .sipush 302, []), (35, .newarray .int, [0]), (37, .putfield 19, [12, 4, 2]), (40, .aload_n 0, []), (41, .sipush 302, []), (44, .newarray .int, [0]), (46, .putfield 22, [12, 5, 2]), (49, .aload_n 0, []), (50, .sipush 600, []), (53, .newarray .int, [0]), (55, .putfield 25, [12, 6, 2]), (58, .aload_n 0, []), (59, .iconst (-1), []), (60, .putfield 28, [12, 15, 0]), (63, .aload_n 0, []), (64, .bipush 12, []), (66, .sipush 302, []), (69, .multianewarray 32 2, [5, 0]), (73, .putfield 34, [12, 17, 2]), (76, .aload_n 0, []), (77, .bipush 12, []), (79, .sipush 302, []), (82, .multianewarray 32 2, [5, 0]), (86, .putfield 37, [12, 18, 2]), (89, .aload_n 0, []), (90, .bipush 12, []), (92, .sipush 302, []), (95, .multianewarray 32 2, [5, 0]), (99, .putfield 40, [12, 19, 2]), (102, .aload_n 0, []), (103, .bipush 12, []), (105, .sipush 302, []), (108, .multianewarray 43 2, [6, 1]), (112, .putfield 45, [12, 20, 2]), (115, .aload_n 0, []), (116, .bipush 12, []), (118, .sipush 302, []), (121, .multianewarray 43 2, [6, 1]), (125, .putfield 48, [12, 21, 2]), (128, .aload_n 0, []), (129, .bipush 12, []), (131, .newarray .int, [0]), (133, .putfield 51, [12, 22, 2]), (136, .aload_n 0, []), (137, .bipush 12, []), (139, .newarray .int, [0]), (141, .putfield 54, [12, 23, 2]), (144, .aload_n 0, []), (145, .bipush 12, []), (147, .newarray .int, [0]), (149, .putfield 57, [12, 24, 2]), (152, .aload_n 0, []), (153, .sipush 512, []), (156, .newarray .boolean, [3]), (158, .putfield 60, [12, 31, 2]), (161, .aload_n 0, []), (162, .sipush 302, []), (165, .newarray .boolean, [3]), (167, .putfield 64, [12, 32, 2]), (170, .aload_n 0, []), (171, .getfield 7, [12, 0, 2]), (174, .iconst 0, []), (175, .iconst 1, []), (176, .iastore, []), (177, .aload_n 0, []), (178, .getfield 7, [12, 0, 2]), (181, .iconst 1, []), (182, .iconst 1, []), (183, .iastore, []), (184, .aload_n 0, []), (185, .getfield 7, [12, 0, 2]), (188, .iconst 2, []), (189, .iconst 4, []), (190, .iastore, []), (191, .aload_n 0, []), (192, .getfield 7, [12, 0, 2]), (195, .iconst 3, []), (196, .bipush 8, []), (198, .iastore, []), (199, .aload_n 0, []), (200, .getfield 7, [12, 0, 2]), (203, .iconst 4, []), (204, .bipush 8, []), (206, .iastore, []), (207, .aload_n 0, []), (208, .getfield 7, [12, 0, 2]), (211, .iconst 5, []), (212, .bipush 64, []), (214, .iastore, []), (215, .aload_n 0, []), (216, .getfield 7, [12, 0, 2]), (219, .bipush 6, []), (221, .iconst 2, []), (222, .iastore, []), (223, .return_, [])])]
def zv_b121 : List (Nat × List Bool × List zv_I) := [
  (0, [true, true, true], [(0, .iload_n 0, []), (1, .iload_n 1, []), (2, .if_icmp .lt 12, [14]), (5, .iload_n 0, []), (6, .iload_n 2, []), (7, .if_icmp .gt 7, [14]), (10, .iconst 1, []), (11, .goto 4, [15])]),
  (14, [false, false, false], [(14, .iconst 0, []), (15, .nop, [15])]),
  (15, [false, false, false], [(15, .ireturn, [])])]
def zv_b122 : List (Nat × List Bool × List zv_I) := [
  (0, [true], [(0, .iload_n 0, []), (1, .ldc 67, [0, 3294967297]), (3, .ldc 68, [0, 999999999]), (5, .invokestatic 69, [121, 3, 1]), (8, .ireturn, [])])]
def zv_b123 : List (Nat × List Bool × List zv_I) := [
  (0, [true, true, true, true, false], [(0, .iconst 0, []), (1, .istore 4, []), (3, .nop, [3])]),
  (3, [true, true, true, true, true], [(3, .iload 4, []), (5, .iload_n 2, []), (6, .if_icmp .ge 22, [28]), (9, .aload_n 0, []), (10, .getfield 7, [12, 0, 2]), (13, .iload_n 1, []), (14, .iload 4, []), (16, .iadd, []), (17, .iaload, []), (18, .iload_n 3, []), (19, .if_icmp .ge 9, [28]), (22, .iinc 4 1, []), (25, .goto (-22), [3])]),
  (28, [false, false, false, false, true], [(28, .iload 4, []), (30, .ireturn, [])])]
def zv_b124 : List (Nat × List Bool × List zv_I) := [
  (0, [true, true, true, true, true], [(0, .iload_n 3, []), (1, .iload_n 2, []), (2, .if_icmp .ge 20, [22]), (5, .aload_n 0, []), (6, .getfield 7, [12, 0, 2]), (9, .iload_n 1, []), (10, .iload_n 3, []), (11, .iadd, []), (12, .iaload, []), (13, .iload 4, []), (15, .if_icmp .ne 7, [22]), (18, .iconst 1, []), (19, .goto 4, [23])]),
  (22, [false, false, false, false, false], [(22, .iconst 0, []), (23, .nop, [23])]),
  (23, [false, false, false, false, false], [(23, .ireturn, [])])]
def zv_b125 : List (Nat × List Bool × List zv_I) := [
  (0, [true, true, false, false], [(0, .aload_n 0, []), (1, .bipush 20, []), (3, .aload_n 0, []), (4, .getfield 7, [12, 0, 2]), (7, .bipush 8, []), (9, .iaload, []), (10, .iload_n 1, []), (11, .invokevirtual 73, [123, 3, 1]), (14, .istore_n 2, []), (15, .aload_n 0, []), (16, .bipush 20, []), (18, .aload_n 0, []), (19, .getfield 7, [12, 0, 2]), (22, .bipush 8, []), (24, .iaload, []), (25, .iload_n 2, []), (26, .iload_n 1, []), (27, .invokevirtual 77, [124, 4, 1]), (30, .ifCond .eq 14, [44]), (33, .aload_n 0, []), (34, .getfield 7, [12, 0, 2]), (37, .sipush 320, []), (40, .iload_n 2, []), (41, .iadd, []), (42, .iaload, []), (43, .ireturn, [])]),
  (44, [true, true, false, false], [(44, .aload_n 0, []), (45, .sipush 620, []), (48, .aload_n 0, []), (49, .getfield 7, [12, 0, 2]), (52, .bipush 9, []), (54, .iaload, []), (55, .iload_n 1, []), (56, .invokevirtual 73, [123, 3, 1]), (59, .istore_n 3, []), (60, .aload_n 0, []), (61, .sipush 620, []), (64, .aload_n 0, []), (65, .getfield 7, [12, 0, 2]), (68, .bipush 9, []), (70, .iaload, []), (71, .iload_n 3, []), (72, .iload_n 1, []), (73, .invokevirtual 77, [124, 4, 1]), (76, .ifCond .eq 16, [92]), (79, .aload_n 0, []), (80, .getfield 7, [12, 0, 2]), (83, .sipush 920, []), (86, .iload_n 3, []), (87, .iadd, []), (88, .iaload, []), (89, .goto 4, [93])]),
  (92, [false, false, false, false], [(92, .iconst 0, []), (93, .nop, [93])]),
  (93, [false, false, false, false], [(93, .ireturn, [])])]
def zv_b126 : List (Nat × List Bool × List zv_I) := [
  (0, [true, false, false], [(0, .iconst 0, []), (1, .istore_n 1, []), (2, .iconst 0, []), (3, .istore_n 2, []), (4, .nop, [4])]),
  (4, [true, true, true], [(4, .iload_n 2, []), (5, .aload_n 0, []), (6, .getfield 7, [12, 0, 2]), (9, .bipush 8, []), (11, .iaload, []), (12, .if_icmp .ge 30, [42]), (15, .iload_n 1, []), (16, .aload_n 0, []), (17, .getfield 7, [12, 0, 2]), (20, .sipush 320, []), (23, .iload_n 2, []), (24, .iadd, []), (25, .iaload, []), (26, .ifCond .ne 7, [33]), (29, .iconst 1, []), (30, .goto 4, [34])]),
  (33, [true, false, true], [(33, .iconst 0, []), (34, .nop, [34])]),
  (34, [true, false, true], [(34, .iadd, []), (35, .istore_n 1, []), (36, .iinc 2 1, []), (39, .goto (-35), [4])]),
  (42, [false, true, false], [(42, .iload_n 1, []), (43, .ireturn, [])])]
def zv_b127 : List (Nat × List Bool × List zv_I) := [
  (0, [true], [(0, .aload_n 0, []), (1, .getfield 7, [12, 0, 2]), (4, .bipush 8, []), (6, .iaload, []), (7, .aload_n 0, []), (8, .invokevirtual 81, [126, 0, 1]), (11, .isub, []), (12, .aload_n 0, []), (13, .getfield 7, [12, 0, 2]), (16, .bipush 9, []), (18, .iaload, []), (19, .iadd, []), (20, .ireturn, [])])]
def zv_b128 : List (Nat × List Bool × List zv_I) := [
  (0, [true, true, true, false, false, false], [(0, .aload_n 0, []), (1, .bipush 20, []), (3, .aload_n 0, []), (4, .getfield 7, [12, 0, 2]), (7, .bipush 8, []), (9, .iaload, []), (10, .iload_n 1, []), (11, .invokevirtual 73, [123, 3, 1]), (14, .istore_n 3, []), (15, .aload_n 0, []), (16, .bipush 20, []), (18, .aload_n 0, []), (19, .getfield 7, [12, 0, 2]), (22, .bipush 8, []), (24, .iaload, []), (25, .iload_n 3, []), (26, .iload_n 1, []), (27, .invokevirtual 77, [124, 4, 1]), (30, .ifCond .eq 15, [45]), (33, .aload_n 0, []), (34, .getfield 7, [12, 0, 2]), (37, .sipush 320, []), (40, .iload_n 3, []), (41, .iadd, []), (42, .iload_n 2, []), (43, .iastore, []), (44, .return_, [])]),
  (45, [true, true, true, false, false, false], [(45, .aload_n 0, []), (46, .sipush 620, []), (49, .aload_n 0, []), (50, .getfield 7, [12, 0, 2]), (53, .bipush 9, []), (55, .iaload, []), (56, .iload_n 1, []), (57, .invokevirtual 73, [123, 3, 1]), (60, .istore 4, []), (62, .aload_n 0, []), (63, .sipush 620, []), (66, .aload_n 0, []), (67, .getfield 7, [12, 0, 2]), (70, .bipush 9, []), (72, .iaload, []), (73, .iload 4, []), (75, .iload_n 1, []), (76, .invokevirtual 77, [124, 4, 1]), (79, .ifCond .eq 102, [181]), (82, .aload_n 0, []), (83, .getfield 7, [12, 0, 2]), (86, .sipush 920, []), (89, .iload 4, []), (91, .iadd, []), (92, .iload_n 2, []), (93, .iastore, []), (94, .iload_n 2, []), (95, .ifCond .le 4, [99]), (98, .return_, [])]),
  (99, [true, false, false, false, true, false], [(99, .aload_n 0, []), (100, .getfield 7, [12, 0, 2]), (103, .bipush 9, []), (105, .dup2, []), (106, .iaload, []), (107, .iconst 1, []), (108, .isub, []), (109, .iastore, []), (110, .iload 4, []), (112, .istore 5, []), (114, .nop, [114])]),
  (114, [true, false, false, false, false, true], [(114, .iload 5, []), (116, .aload_n 0, []), (117, .getfield 7, [12, 0, 2]), (120, .bipush 9, []), (122, .iaload, []), (123, .if_icmp .ge 57, [180]), (126, .aload_n 0, []), (127, .getfield 7, [12, 0, 2]), (130, .sipush 620, []), (133, .iload 5, []), (135, .iadd, []), (136, .aload_n 0, []), (137, .getfield 7, [12, 0, 2]), (140, .sipush 620, []), (143, .iload 5, []), (145, .iadd, []), (146, .iconst 1, []), (147, .iadd, []), (148, .iaload, []), (149, .iastore, []), (150, .aload_n 0, []), (151, .getfield 7, [12, 0, 2]), (154, .sipush 920, []), (157, .iload 5, []), (159, .iadd, []), (160, .aload_n 0, []), (161, .getfield 7, [12, 0, 2]), (164, .sipush 920, []), (167, .iload 5, []), (169, .iadd, []), (170, .iconst 1, []), (171, .iadd, []), (172, .iaload, []), (173, .iastore, []), (174, .iinc 5 1, []), (177, .goto (-63), [114])]),
  (180, [false, false, false, false, false, false], [(180, .return_, [])]),
  (181, [true, true, true, false, true, false], [(181, .iload_n 2, []), (182, .ifCond .ne 4, [186]), (185, .return_, [])]),
  (186, [true, true, true, false, true, false], [(186, .aload_n 0, []), (187, .getfield 7, [12, 0, 2]), (190, .bipush 9, []), (192, .iaload, []), (193, .istore 5, []), (195, .nop, [195])]),
  (195, [true, true, true, false, true, true], [(195, .iload 5, []), (197, .iload 4, []), (199, .if_icmp .le 57, [256]), (202, .aload_n 0, []), (203, .getfield 7, [12, 0, 2]), (206, .sipush 620, []), (209, .iload 5, []), (211, .iadd, []), (212, .aload_n 0, []), (213, .getfield 7, [12, 0, 2]), (216, .sipush 620, []), (219, .iload 5, []), (221, .iadd, []), (222, .iconst 1, []), (223, .isub, []), (224, .iaload, []), (225, .iastore, []), (226, .aload_n 0, []), (227, .getfield 7, [12, 0, 2]), (230, .sipush 920, []), (233, .iload 5, []), (235, .iadd, []), (236, .aload_n 0, []), (237, .getfield 7, [12, 0, 2]), (240, .sipush 920, []), (243, .iload 5, []), (245, .iadd, []), (246, .iconst 1, []), (247, .isub, []), (248, .iaload, []), (249, .iastore, []), (250, .iinc 5 (-1), []), (253, .goto (-58), [195])]),
  (256, [true, true, true, false, true, false], [(256, .aload_n 0, []), (257, .getfield 7, [12, 0, 2]), (260, .sipush 620, []), (263, .iload 4, []), (265, .iadd, []), (266, .iload_n 1, []), (267, .iastore, []), (268, .aload_n 0, []), (269, .getfield 7, [12, 0, 2]), (272, .sipush 920, []), (275, .iload 4, []), (277, .iadd, []), (278, .iload_n 2, []), (279, .iastore, []), (280, .aload_n 0, []), (281, .getfield 7, [12, 0, 2]), (284, .bipush 9, []), (286, .dup2, []), (287, .iaload, []), (288, .iconst 1, []), (289, .iadd, []), (290, .iastore, []), (291, .return_, [])])]
def zv_b129 : List (Nat × List Bool × List zv_I) := [
  (0, [true, false, false, false], [(0, .iconst 0, []), (1, .istore_n 1, []), (2, .iconst 0, []), (3, .istore_n 2, []), (4, .iconst 0, []), (5, .istore_n 3, []), (6, .nop, [6])]),
  (6, [true, true, true, true], [(6, .iload_n 3, []), (7, .aload_n 0, []), (8, .getfield 7, [12, 0, 2]), (11, .bipush 8, []), (13, .iaload, []), (14, .if_icmp .gt 155, [169]), (17, .nop, [17])]),
  (17, [true, true, true, true], [(17, .iload_n 2, []), (18, .aload_n 0, []), (19, .getfield 7, [12, 0, 2]), (22, .bipush 9, []), (24, .iaload, []), (25, .if_icmp .ge 77, [102]), (28, .iload_n 3, []), (29, .aload_n 0, []), (30, .getfield 7, [12, 0, 2]), (33, .bipush 8, []), (35, .iaload, []), (36, .if_icmp .eq 25, [61]), (39, .aload_n 0, []), (40, .getfield 7, [12, 0, 2]), (43, .sipush 620, []), (46, .iload_n 2, []), (47, .iadd, []), (48, .iaload, []), (49, .aload_n 0, []), (50, .getfield 7, [12, 0, 2]), (53, .bipush 20, []), (55, .iload_n 3, []), (56, .iadd, []), (57, .iaload, []), (58, .if_icmp .ge 44, [102]), (61, .nop, [61])]),
  (61, [true, true, true, true], [(61, .aload_n 0, []), (62, .getfield 19, [12, 4, 2]), (65, .iload_n 1, []), (66, .aload_n 0, []), (67, .getfield 7, [12, 0, 2]), (70, .sipush 620, []), (73, .iload_n 2, []), (74, .iadd, []), (75, .iaload, []), (76, .iastore, []), (77, .aload_n 0, []), (78, .getfield 22, [12, 5, 2]), (81, .iload_n 1, []), (82, .aload_n 0, []), (83, .getfield 7, [12, 0, 2]), (86, .sipush 920, []), (89, .iload_n 2, []), (90, .iadd, []), (91, .iaload, []), (92, .iastore, []), (93, .iinc 1 1, []), (96, .iinc 2 1, []), (99, .goto (-82), [17])]),
  (102, [true, true, true, true], [(102, .iload_n 3, []), (103, .aload_n 0, []), (104, .getfield 7, [12, 0, 2]), (107, .bipush 8, []), (109, .iaload, []), (110, .if_icmp .eq 53, [163]), (113, .aload_n 0, []), (114, .getfield 7, [12, 0, 2]), (117, .sipush 320, []), (120, .iload_n 3, []), (121, .iadd, []), (122, .iaload, []), (123, .ifCond .ne 6, [129]), (126, .goto 37, [163])]),
  (129, [true, true, true, true], [(129, .aload_n 0, []), (130, .getfield 19, [12, 4, 2]), (133, .iload_n 1, []), (134, .aload_n 0, []), (135, .getfield 7, [12, 0, 2]), (138, .bipush 20, []), (140, .iload_n 3, []), (141, .iadd, []), (142, .iaload, []), (143, .iastore, []), (144, .aload_n 0, []), (145, .getfield 22, [12, 5, 2]), (148, .iload_n 1, []), (149, .aload_n 0, []), (150, .getfield 7, [12, 0, 2]), (153, .sipush 320, []), (156, .iload_n 3, []), (157, .iadd, []), (158, .iaload, []), (159, .iastore, []), (160, .iinc 1 1, []), (163, .nop, [163])]),
  (163, [true, true, true, true], [(163, .iinc 3 1, []), (166, .goto (-160), [6])]),
  (169, [false, true, false, false], [(169, .iload_n 1, []), (170, .ireturn, [])])]
def zv_b130 : List (Nat × List Bool × List zv_I) := [
  (0, [true, false, false], [(0, .aload_n 0, []), (1, .invokevirtual 85, [129, 0, 1]), (4, .istore_n 1, []), (5, .iconst 0, []), (6, .istore_n 2, []), (7, .nop, [7])]),
  (7, [true, true, true], [(7, .iload_n 2, []), (8, .iload_n 1, []), (9, .if_icmp .ge 40, [49]), (12, .aload_n 0, []), (13, .getfield 7, [12, 0, 2]), (16, .bipush 20, []), (18, .iload_n 2, []), (19, .iadd, []), (20, .aload_n 0, []), (21, .getfield 19, [12, 4, 2]), (24, .iload_n 2, []), (25, .iaload, []), (26, .iastore, []), (27, .aload_n 0, []), (28, .getfield 7, [12, 0, 2]), (31, .sipush 320, []), (34, .iload_n 2, []), (35, .iadd, []), (36, .aload_n 0, []), (37, .getfield 22, [12, 5, 2]), (40, .iload_n 2, []), (41, .iaload, []), (42, .iastore, []), (43, .iinc 2 1, []), (46, .goto (-39), [7])]),
  (49, [true, true, false], [(49, .aload_n 0, []), (50, .getfield 7, [12, 0, 2]), (53, .bipush 8, []), (55, .iload_n 1, []), (56, .iastore, []), (57, .aload_n 0, []), (58, .getfield 7, [12, 0, 2]), (61, .bipush 9, []), (63, .iconst 0, []), (64, .iastore, []), (65, .aload_n 0, []), (66, .getfield 7, [12, 0, 2]), (69, .bipush 10, []), (71, .dup2, []), (72, .iaload, []), (73, .iload_n 1, []), (74, .iadd, []), (75, .iastore, []), (76, .iload_n 1, []), (77, .ireturn, [])])]
def zv_b131 : List (Nat × List Bool × List zv_I) := [
  (0, [true], [(0, .aload_n 0, []), (1, .getfield 7, [12, 0, 2]), (4, .bipush 11, []), (6, .iconst 0, []), (7, .iastore, []), (8, .aload_n 0, []), (9, .getfield 7, [12, 0, 2]), (12, .bipush 12, []), (14, .iconst 0, []), (15, .iastore, []), (16, .return_, [])])]
def zv_b132 : List (Nat × List Bool × List zv_I) := [
  (0, [true], [(0, .aload_n 0, []), (1, .invokevirtual 88, [131, 0, 0]), (4, .aload_n 0, []), (5, .invokevirtual 91, [130, 0, 1]), (8, .ireturn, [])])]
def zv_b133 : List (Nat × List Bool × List zv_I) := [
  (0, [true, true, true, false, false], [(0, .iload_n 1, []), (1, .iconst 0, []), (2, .bipush 7, []), (4, .invokestatic 69, [121, 3, 1]), (7, .ifCond .ne 5, [12]), (10, .iconst 0, []), (11, .ireturn, [])]),
  (12, [true, true, true, false, false], [(12, .iload_n 1, []), (13, .iconst 3, []), (14, .if_icmp .eq 9, [23]), (17, .iload_n 1, []), (18, .bipush 6, []), (20, .if_icmp .ne 7, [27]), (23, .nop, [23])]),
  (23, [true, true, true, false, false], [(23, .iconst 1, []), (24, .goto 23, [47])]),
  (27, [true, true, true, false, false], [(27, .iload_n 1, []), (28, .iconst 4, []), (29, .if_icmp .ne 7, [36]), (32, .iconst 2, []), (33, .goto 14, [47])]),
  (36, [true, true, true, false, false], [(36, .iload_n 1, []), (37, .iconst 5, []), (38, .if_icmp .ne 8, [46]), (41, .bipush 8, []), (43, .goto 4, [47])]),
  (46, [true, true, true, false, false], [(46, .iconst 0, []), (47, .nop, [47])]),
  (47, [true, true, true, false, false], [(47, .istore_n 3, []), (48, .iload_n 1, []), (49, .iconst 2, []), (50, .if_icmp .ge 8, [58]), (53, .bipush 20, []), (55, .goto 46, [101])]),
  (58, [true, true, true, true, false], [(58, .iload_n 1, []), (59, .iconst 2, []), (60, .if_icmp .ne 8, [68]), (63, .bipush 50, []), (65, .goto 36, [101])]),
  (68, [true, true, true, true, false], [(68, .iload_n 1, []), (69, .iconst 5, []), (70, .if_icmp .ge 8, [78]), (73, .bipush 99, []), (75, .goto 26, [101])]),
  (78, [true, true, true, true, false], [(78, .iload_n 1, []), (79, .iconst 5, []), (80, .if_icmp .ne 9, [89]), (83, .sipush 512, []), (86, .goto 15, [101])]),
  (89, [true, true, true, true, false], [(89, .iload_n 1, []), (90, .bipush 6, []), (92, .if_icmp .ne 7, [99]), (95, .iconst 4, []), (96, .goto 5, [101])]),
  (99, [true, true, true, true, false], [(99, .ldc 94, [0, 99999]), (101, .nop, [101])]),
  (101, [true, true, true, true, false], [(101, .istore 4, []), (103, .iload_n 2, []), (104, .iload_n 3, []), (105, .iload 4, []), (107, .invokestatic 69, [121, 3, 1]), (110, .ifCond .ne 5, [115]), (113, .iconst 0, []), (114, .ireturn, [])]),
  (115, [true, true, true, false, false], [(115, .aload_n 0, []), (116, .getfield 7, [12, 0, 2]), (119, .iload_n 1, []), (120, .iload_n 2, []), (121, .iastore, []), (122, .iload_n 1, []), (123, .iconst 2, []), (124, .if_icmp .ge 8, [132]), (127, .aload_n 0, []), (128, .invokevirtual 95, [132, 0, 1]), (131, .pop, []), (132, .nop, [132])]),
  (132, [false, false, false, false, false], [(132, .iconst 1, []), (133, .ireturn, [])])]
def zv_b134 : List (Nat × List Bool × List zv_I) := [
  (0, [true, true, true, true, true, false], [(0, .aload_n 0, []), (1, .getfield 7, [12, 0, 2]), (4, .iload_n 1, []), (5, .iaload, []), (6, .bipush 20, []), (8, .if_icmp .ne 47, [55]), (11, .iload_n 2, []), (12, .istore 5, []), (14, .nop, [14])]),
  (14, [true, true, true, true, true, true], [(14, .iload 5, []), (16, .iload_n 2, []), (17, .bipush 38, []), (19, .iadd, []), (20, .if_icmp .ge 25, [45]), (23, .aload_n 0, []), (24, .getfield 7, [12, 0, 2]), (27, .iload 5, []), (29, .aload_n 0, []), (30, .getfield 7, [12, 0, 2]), (33, .iload 5, []), (35, .iconst 2, []), (36, .iadd, []), (37, .iaload, []), (38, .iastore, []), (39, .iinc 5 1, []), (42, .goto (-28), [14])]),
  (45, [true, true, true, true, true, false], [(45, .aload_n 0, []), (46, .getfield 7, [12, 0, 2]), (49, .iload_n 1, []), (50, .dup2, []), (51, .iaload, []), (52, .iconst 1, []), (53, .isub, []), (54, .iastore, []), (55, .nop, [55])]),
  (55, [true, true, true, true, true, false], [(55, .aload_n 0, []), (56, .getfield 7, [12, 0, 2]), (59, .iload_n 2, []), (60, .iconst 2, []), (61, .aload_n 0, []), (62, .getfield 7, [12, 0, 2]), (65, .iload_n 1, []), (66, .iaload, []), (67, .imul, []), (68, .iadd, []), (69, .iload_n 3, []), (70, .iastore, []), (71, .aload_n 0, []), (72, .getfield 7, [12, 0, 2]), (75, .iload_n 2, []), (76, .iconst 2, []), (77, .aload_n 0, []), (78, .getfield 7, [12, 0, 2]), (81, .iload_n 1, []), (82, .iaload, []), (83, .imul, []), (84, .iadd, []), (85, .iconst 1, []), (86, .iadd, []), (87, .iload 4, []), (89, .iastore, []), (90, .aload_n 0, []), (91, .getfield 7, [12, 0, 2]), (94, .iload_n 1, []), (95, .dup2, []), (96, .iaload, []), (97, .iconst 1, []), (98, .iadd, []), (99, .iastore, []), (100, .return_, [])])]
def zv_b135 : List (Nat × List Bool × List zv_I) := [
  (0, [true, true, true], [(0, .aload_n 0, []), (1, .bipush 11, []), (3, .sipush 1220, []), (6, .iload_n 1, []), (7, .iload_n 2, []), (8, .invokevirtual 98, [134, 4, 0]), (11, .aload_n 0, []), (12, .getfield 7, [12, 0, 2]), (15, .bipush 12, []), (17, .iconst 0, []), (18, .iastore, []), (19, .return_, [])])]
def zv_b136 : List (Nat × List Bool × List zv_I) := [
  (0, [true, true, false], [(0, .iload_n 1, []), (1, .invokestatic 102, [122, 1, 1]), (4, .ifCond .ne 5, [9]), (7, .iconst (-1), []), (8, .ireturn, [])]),
  (9, [true, true, false], [(9, .aload_n 0, []), (10, .iload_n 1, []), (11, .invokevirtual 106, [125, 1, 1]), (14, .istore_n 2, []), (15, .iload_n 2, []), (16, .bipush 99, []), (18, .if_icmp .eq 17, [35]), (21, .iload_n 2, []), (22, .ifCond .ne 15, [37]), (25, .aload_n 0, []), (26, .invokevirtual 110, [127, 0, 1]), (29, .sipush 300, []), (32, .if_icmp .ne 5, [37]), (35, .nop, [35])]),
  (35, [false, false, false], [(35, .iconst (-1), []), (36, .ireturn, [])]),
  (37, [true, true, true], [(37, .aload_n 0, []), (38, .iload_n 1, []), (39, .iload_n 2, []), (40, .iconst 1, []), (41, .iadd, []), (42, .invokevirtual 113, [128, 2, 0]), (45, .aload_n 0, []), (46, .iload_n 1, []), (47, .iconst 1, []), (48, .invokevirtual 117, [135, 2, 0]), (51, .iload_n 2, []), (52, .ifCond .ne 57, [109]), (55, .aload_n 0, []), (56, .getfield 7, [12, 0, 2]), (59, .bipush 9, []), (61, .iaload, []), (62, .aload_n 0, []), (63, .getfield 7, [12, 0, 2]), (66, .iconst 2, []), (67, .iaload, []), (68, .if_icmp .le 41, [109]), (71, .aload_n 0, []), (72, .sipush 620, []), (75, .aload_n 0, []), (76, .getfield 7, [12, 0, 2]), (79, .bipush 9, []), (81, .iaload, []), (82, .aload_n 0, []), (83, .sipush 620, []), (86, .aload_n 0, []), (87, .getfield 7, [12, 0, 2]), (90, .bipush 9, []), (92, .iaload, []), (93, .iload_n 1, []), (94, .invokevirtual 73, [123, 3, 1]), (97, .iload_n 1, []), (98, .invokevirtual 77, [124, 4, 1]), (101, .ifCond .eq 8, [109]), (104, .aload_n 0, []), (105, .invokevirtual 91, [130, 0, 1]), (108, .pop, []), (109, .nop, [109])]),
  (109, [false, false, true], [(109, .iload_n 2, []), (110, .iconst 1, []), (111, .iadd, []), (112, .ireturn, [])])]
def zv_b137 : List (Nat × List Bool × List zv_I) := [
  (0, [true, true, false], [(0, .aload_n 0, []), (1, .iload_n 1, []), (2, .invokevirtual 106, [125, 1, 1]), (5, .istore_n 2, []), (6, .iload_n 2, []), (7, .ifCond .ne 5, [12]), (10, .iconst (-1), []), (11, .ireturn, [])]),
  (12, [true, true, true], [(12, .aload_n 0, []), (13, .iload_n 1, []), (14, .iload_n 2, []), (15, .iconst 1, []), (16, .isub, []), (17, .invokevirtual 113, [128, 2, 0]), (20, .aload_n 0, []), (21, .iload_n 1, []), (22, .iconst (-1), []), (23, .invokevirtual 117, [135, 2, 0]), (26, .iload_n 2, []), (27, .iconst 1, []), (28, .isub, []), (29, .ireturn, [])])]
def zv_b138 : List (Nat × List Bool × List zv_I) := [
  (0, [true, true, false, false, false, false], [(0, .iload_n 1, []), (1, .ifCond .eq 8, [9]), (4, .bipush 11, []), (6, .goto 5, [11])]),
  (9, [true, true, false, false, false, false], [(9, .bipush 12, []), (11, .nop, [11])]),
  (11, [true, true, false, false, false, false], [(11, .istore_n 2, []), (12, .iload_n 1, []), (13, .ifCond .eq 9, [22]), (16, .sipush 1220, []), (19, .goto 6, [25])]),
  (22, [true, true, true, false, false, false], [(22, .sipush 1260, []), (25, .nop, [25])]),
  (25, [true, true, true, false, false, false], [(25, .istore_n 3, []), (26, .aload_n 0, []), (27, .getfield 7, [12, 0, 2]), (30, .iload_n 2, []), (31, .iaload, []), (32, .ifCond .ne 6, [38]), (35, .ldc 120, [0, 3294967295]), (37, .ireturn, [])]),
  (38, [true, true, true, true, false, false], [(38, .aload_n 0, []), (39, .getfield 7, [12, 0, 2]), (42, .iload_n 2, []), (43, .dup2, []), (44, .iaload, []), (45, .iconst 1, []), (46, .isub, []), (47, .iastore, []), (48, .aload_n 0, []), (49, .getfield 7, [12, 0, 2]), (52, .iload_n 3, []), (53, .iconst 2, []), (54, .aload_n 0, []), (55, .getfield 7, [12, 0, 2]), (58, .iload_n 2, []), (59, .iaload, []), (60, .imul, []), (61, .iadd, []), (62, .iaload, []), (63, .istore 4, []), (65, .aload_n 0, []), (66, .getfield 7, [12, 0, 2]), (69, .iload_n 3, []), (70, .iconst 2, []), (71, .aload_n 0, []), (72, .getfield 7, [12, 0, 2]), (75, .iload_n 2, []), (76, .iaload, []), (77, .imul, []), (78, .iadd, []), (79, .iconst 1, []), (80, .iadd, []), (81, .iaload, []), (82, .istore 5, []), (84, .aload_n 0, []), (85, .iload_n 1, []), (86, .ifCond .eq 8, [94]), (89, .bipush 12, []), (91, .goto 5, [96])]),
  (94, [true, true, false, false, true, true], [(94, .bipush 11, []), (96, .nop, [96])]),
  (96, [true, true, false, false, true, true], [(96, .iload_n 1, []), (97, .ifCond .eq 9, [106]), (100, .sipush 1260, []), (103, .goto 6, [109])]),
  (106, [true, true, false, false, true, true], [(106, .sipush 1220, []), (109, .nop, [109])]),
  (109, [true, true, false, false, true, true], [(109, .iload 4, []), (111, .iload 5, []), (113, .invokevirtual 98, [134, 4, 0]), (116, .aload_n 0, []), (117, .iload 4, []), (119, .aload_n 0, []), (120, .iload 4, []), (122, .invokevirtual 106, [125, 1, 1]), (125, .iload_n 1, []), (126, .ifCond .eq 9, [135]), (129, .iload 5, []), (131, .ineg, []), (132, .goto 5, [137])]),
  (135, [false, false, false, false, true, true], [(135, .iload 5, []), (137, .nop, [137])]),
  (137, [false, false, false, false, true, false], [(137, .iadd, []), (138, .invokevirtual 113, [128, 2, 0]), (141, .iload 4, []), (143, .ireturn, [])])]
def zv_b139 : List (Nat × List Bool × List zv_I) := [
  (0, [true, true], [(0, .iload_n 1, []), (1, .iconst 0, []), (2, .aload_n 0, []), (3, .invokevirtual 85, [129, 0, 1]), (6, .iconst 1, []), (7, .isub, []), (8, .invokestatic 69, [121, 3, 1]), (11, .ifCond .eq 12, [23]), (14, .aload_n 0, []), (15, .getfield 19, [12, 4, 2]), (18, .iload_n 1, []), (19, .iaload, []), (20, .goto 5, [25])]),
  (23, [false, false], [(23, .ldc 120, [0, 3294967295]), (25, .nop, [25])]),
  (25, [false, false], [(25, .ireturn, [])])]
def zv_b140 : List (Nat × List Bool × List zv_I) := [
  (0, [true, true, false, false, false], [(0, .aload_n 0, []), (1, .invokevirtual 85, [129, 0, 1]), (4, .istore_n 2, []), (5, .iconst 0, []), (6, .istore_n 3, []), (7, .iconst 0, []), (8, .istore 4, []), (10, .nop, [10])]),
  (10, [true, true, true, true, true], [(10, .iload 4, []), (12, .iload_n 2, []), (13, .if_icmp .ge 28, [41]), (16, .iload_n 3, []), (17, .aload_n 0, []), (18, .getfield 19, [12, 4, 2]), (21, .iload 4, []), (23, .iaload, []), (24, .iload_n 1, []), (25, .if_icmp .ge 7, [32]), (28, .iconst 1, []), (29, .goto 4, [33])]),
  (32, [true, true, true, false, true], [(32, .iconst 0, []), (33, .nop, [33])]),
  (33, [true, true, true, false, true], [(33, .iadd, []), (34, .istore_n 3, []), (35, .iinc 4 1, []), (38, .goto (-28), [10])]),
  (41, [false, false, false, true, false], [(41, .iload_n 3, []), (42, .ireturn, [])])]
def zv_b141 : List (Nat × List Bool × List zv_I) := [
  (0, [true, true, true, true, false, false, false, false], [(0, .iload_n 3, []), (1, .iconst 0, []), (2, .iconst 2, []), (3, .invokestatic 69, [121, 3, 1]), (6, .ifCond .ne 7, [13]), (9, .ldc2_w 121, [18446744073709551615]), (12, .lreturn, [])]),
  (13, [true, true, true, true, false, false, false, false], [(13, .aload_n 0, []), (14, .invokevirtual 85, [129, 0, 1]), (17, .istore 4, []), (19, .lconst 0, []), (20, .lstore 5, []), (22, .iconst 0, []), (23, .istore 7, []), (25, .nop, [25])]),
  (25, [true, true, true, true, true, true, false, true], [(25, .iload 7, []), (27, .iload 4, []), (29, .if_icmp .ge 70, [99]), (32, .aload_n 0, []), (33, .getfield 19, [12, 4, 2]), (36, .iload 7, []), (38, .iaload, []), (39, .iload_n 1, []), (40, .iload_n 2, []), (41, .invokestatic 69, [121, 3, 1]), (44, .ifCond .eq 49, [93]), (47, .lload 5, []), (49, .iload_n 3, []), (50, .ifCond .ne 7, [57]), (53, .lconst 1, []), (54, .goto 36, [90])]),
  (57, [true, true, true, true, true, false, false, true], [(57, .iload_n 3, []), (58, .iconst 1, []), (59, .if_icmp .ne 14, [73]), (62, .aload_n 0, []), (63, .getfield 22, [12, 5, 2]), (66, .iload 7, []), (68, .iaload, []), (69, .i2l, []), (70, .goto 20, [90])]),
  (73, [true, true, true, true, true, false, false, true], [(73, .aload_n 0, []), (74, .getfield 19, [12, 4, 2]), (77, .iload 7, []), (79, .iaload, []), (80, .i2l, []), (81, .aload_n 0, []), (82, .getfield 22, [12, 5, 2]), (85, .iload 7, []), (87, .iaload, []), (88, .i2l, []), (89, .lmul, []), (90, .nop, [90])]),
  (90, [true, true, true, true, true, false, false, true], [(90, .ladd, []), (91, .lstore 5, []), (93, .nop, [93])]),
  (93, [true, true, true, true, true, true, false, true], [(93, .iinc 7 1, []), (96, .goto (-71), [25])]),
  (99, [false, false, false, false, false, true, false, false], [(99, .lload 5, []), (101, .lreturn, [])])]
def zv_b142 : List (Nat × List Bool × List zv_I) := [
  (0, [true, true, true, true, true, true, false, false], [(0, .aload_n 0, []), (1, .getfield 123, [12, 7, 0]), (4, .bipush 20, []), (6, .iadd, []), (7, .sipush 600, []), (10, .if_icmp .le 5, [15]), (13, .iconst (-1), []), (14, .ireturn, [])]),
  (15, [true, true, true, true, true, true, false, false], [(15, .iconst 0, []), (16, .istore 6, []), (18, .nop, [18])]),
  (18, [true, true, true, true, true, true, true, false], [(18, .iload 6, []), (20, .bipush 20, []), (22, .if_icmp .ge 93, [115]), (25, .iload 6, []), (27, .iconst 4, []), (28, .if_icmp .ge 7, [35]), (31, .iload_n 1, []), (32, .goto 39, [71])]),
  (35, [true, true, true, true, true, true, true, false], [(35, .iload 6, []), (37, .bipush 8, []), (39, .if_icmp .ge 7, [46]), (42, .iload_n 2, []), (43, .goto 28, [71])]),
  (46, [true, true, true, true, true, true, true, false], [(46, .iload 6, []), (48, .bipush 12, []), (50, .if_icmp .ge 7, [57]), (53, .iload_n 3, []), (54, .goto 17, [71])]),
  (57, [true, true, true, true, true, true, true, false], [(57, .iload 6, []), (59, .bipush 16, []), (61, .if_icmp .ge 8, [69]), (64, .iload 4, []), (66, .goto 5, [71])]),
  (69, [true, true, true, true, true, true, true, false], [(69, .iload 5, []), (71, .nop, [71])]),
  (71, [true, true, true, true, true, true, true, false], [(71, .istore 7, []), (73, .aload_n 0, []), (74, .getfield 25, [12, 6, 2]), (77, .aload_n 0, []), (78, .getfield 123, [12, 7, 0]), (81, .iload 7, []), (83, .bipush 24, []), (85, .bipush 8, []), (87, .iload 6, []), (89, .iconst 4, []), (90, .irem, []), (91, .imul, []), (92, .isub, []), (93, .ishr, []), (94, .sipush 255, []), (97, .iand, []), (98, .iastore, []), (99, .aload_n 0, []), (100, .dup, []), (101, .getfield 123, [12, 7, 0]), (104, .iconst 1, []), (105, .iadd, []), (106, .putfield 123, [12, 7, 0]), (109, .iinc 6 1, []), (112, .goto (-94), [18])]),
  (115, [true, false, false, false, false, false, false, false], [(115, .aload_n 0, []), (116, .getfield 123, [12, 7, 0]), (119, .ireturn, [])])]
def zv_b143 : List (Nat × List Bool × List zv_I) := [
  (0, [true, true], [(0, .iload_n 1, []), (1, .iconst 0, []), (2, .aload_n 0, []), (3, .getfield 123, [12, 7, 0]), (6, .invokestatic 69, [121, 3, 1]), (9, .ifCond .ne 5, [14]), (12, .iconst 0, []), (13, .ireturn, [])]),
  (14, [true, true], [(14, .aload_n 0, []), (15, .iload_n 1, []), (16, .putfield 123, [12, 7, 0]), (19, .iconst 1, []), (20, .ireturn, [])])]
def zv_b144 : List (Nat × List Bool × List zv_I) := [
  (0, [true, true], [(0, .iload_n 1, []), (1, .aload_n 0, []), (2, .getfield 123, [12, 7, 0]), (5, .if_icmp .ge 12, [17]), (8, .aload_n 0, []), (9, .getfield 25, [12, 6, 2]), (12, .iload_n 1, []), (13, .iaload, []), (14, .goto 4, [18])]),
  (17, [false, false], [(17, .iconst (-1), []), (18, .nop, [18])]),
  (18, [false, false], [(18, .ireturn, [])])]
def zv_b145 : List (Nat × List Bool × List zv_I) := [
  (0, [true], [(0, .iload_n 0, []), (1, .bipush 97, []), (3, .bipush 122, []), (5, .invokestatic 69, [121, 3, 1]), (8, .ifCond .ne 14, [22]), (11, .iload_n 0, []), (12, .bipush 65, []), (14, .bipush 90, []), (16, .invokestatic 69, [121, 3, 1]), (19, .ifCond .eq 7, [26]), (22, .nop, [22])]),
  (22, [false], [(22, .iconst 1, []), (23, .goto 4, [27])]),
  (26, [false], [(26, .iconst 0, []), (27, .nop, [27])]),
  (27, [false], [(27, .ireturn, [])])]
def zv_b146 : List (Nat × List Bool × List zv_I) := [
  (0, [true], [(0, .iload_n 0, []), (1, .bipush 48, []), (3, .bipush 57, []), (5, .invokestatic 69, [121, 3, 1]), (8, .ireturn, [])])]
def zv_b147 : List (Nat × List Bool × List zv_I) := [
  (0, [true, true, false, false], [(0, .aload_n 0, []), (1, .getfield 126, [12, 8, 0]), (4, .aload_n 0, []), (5, .getfield 129, [12, 10, 0]), (8, .isub, []), (9, .aload_n 1, []), (10, .invokevirtual 132, [201, 0, 1]), (13, .if_icmp .ne 7, [20]), (16, .iconst 1, []), (17, .goto 4, [21])]),
  (20, [true, true, false, false], [(20, .iconst 0, []), (21, .nop, [21])]),
  (21, [true, true, false, false], [(21, .istore_n 2, []), (22, .iconst 0, []), (23, .istore_n 3, []), (24, .nop, [24])]),
  (24, [true, true, true, true], [(24, .iload_n 3, []), (25, .aload_n 1, []), (26, .invokevirtual 132, [201, 0, 1]), (29, .if_icmp .ge 38, [67]), (32, .iload_n 2, []), (33, .ifCond .eq 34, [67]), (36, .aload_n 0, []), (37, .getfield 25, [12, 6, 2]), (40, .aload_n 0, []), (41, .getfield 129, [12, 10, 0]), (44, .iload_n 3, []), (45, .iadd, []), (46, .iaload, []), (47, .aload_n 1, []), (48, .iload_n 3, []), (49, .invokevirtual 137, [202, 1, 1]), (52, .if_icmp .ne 7, [59]), (55, .iconst 1, []), (56, .goto 4, [60])]),
  (59, [true, true, false, true], [(59, .iconst 0, []), (60, .nop, [60])]),
  (60, [true, true, false, true], [(60, .istore_n 2, []), (61, .iinc 3 1, []), (64, .goto (-40), [24])]),
  (67, [false, false, true, false], [(67, .iload_n 2, []), (68, .ireturn, [])])]
def zv_b148 : List (Nat × List Bool × List zv_I) := [
  (0, [true], [(0, .aload_n 0, []), (1, .ldc 141, [1, 20]), (3, .invokevirtual 143, [147, 1, 1]), (6, .ifCond .eq 5, [11]), (9, .iconst 4, []), (10, .ireturn, [])]),
  (11, [true], [(11, .aload_n 0, []), (12, .ldc 147, [1, 21]), (14, .invokevirtual 143, [147, 1, 1]), (17, .ifCond .eq 5, [22]), (20, .iconst 5, []), (21, .ireturn, [])]),
  (22, [true], [(22, .aload_n 0, []), (23, .ldc 149, [1, 22]), (25, .invokevirtual 143, [147, 1, 1]), (28, .ifCond .eq 6, [34]), (31, .bipush 6, []), (33, .ireturn, [])]),
  (34, [true], [(34, .aload_n 0, []), (35, .ldc 151, [1, 23]), (37, .invokevirtual 143, [147, 1, 1]), (40, .ifCond .eq 6, [46]), (43, .bipush 7, []), (45, .ireturn, [])]),
  (46, [true], [(46, .aload_n 0, []), (47, .ldc 153, [1, 24]), (49, .invokevirtual 143, [147, 1, 1]), (52, .ifCond .eq 6, [58]), (55, .bipush 8, []), (57, .ireturn, [])]),
  (58, [true], [(58, .aload_n 0, []), (59, .ldc 155, [1, 25]), (61, .invokevirtual 143, [147, 1, 1]), (64, .ifCond .eq 8, [72]), (67, .bipush 9, []), (69, .goto 4, [73])]),
  (72, [false], [(72, .iconst 1, []), (73, .nop, [73])]),
  (73, [false], [(73, .ireturn, [])])]
def zv_b149 : List (Nat × List Bool × List zv_I) := [
  (0, [true, false, false, false], [(0, .aload_n 0, []), (1, .aload_n 0, []), (2, .getfield 126, [12, 8, 0]), (5, .invokevirtual 157, [144, 1, 1]), (8, .bipush 32, []), (10, .if_icmp .eq 16, [26]), (13, .aload_n 0, []), (14, .aload_n 0, []), (15, .getfield 126, [12, 8, 0]), (18, .invokevirtual 157, [144, 1, 1]), (21, .bipush 10, []), (23, .if_icmp .ne 16, [39]), (26, .nop, [26])]),
  (26, [true, false, false, false], [(26, .aload_n 0, []), (27, .dup, []), (28, .getfield 126, [12, 8, 0]), (31, .iconst 1, []), (32, .iadd, []), (33, .putfield 126, [12, 8, 0]), (36, .goto (-36), [0])]),
  (39, [true, false, false, false], [(39, .aload_n 0, []), (40, .aload_n 0, []), (41, .getfield 126, [12, 8, 0]), (44, .putfield 129, [12, 10, 0]), (47, .aload_n 0, []), (48, .aload_n 0, []), (49, .getfield 126, [12, 8, 0]), (52, .invokevirtual 157, [144, 1, 1]), (55, .istore_n 1, []), (56, .iload_n 1, []), (57, .iconst (-1), []), (58, .if_icmp .ne 11, [69]), (61, .aload_n 0, []), (62, .iconst 0, []), (63, .putfield 160, [12, 9, 0]), (66, .goto 242, [308])]),
  (69, [true, true, false, false], [(69, .iload_n 1, []), (70, .invokestatic 163, [145, 1, 1]), (73, .ifCond .eq 41, [114]), (76, .nop, [76])]),
  (76, [true, false, false, false], [(76, .aload_n 0, []), (77, .aload_n 0, []), (78, .getfield 126, [12, 8, 0]), (81, .invokevirtual 157, [144, 1, 1]), (84, .invokestatic 163, [145, 1, 1]), (87, .ifCond .eq 16, [103]), (90, .aload_n 0, []), (91, .dup, []), (92, .getfield 126, [12, 8, 0]), (95, .iconst 1, []), (96, .iadd, []), (97, .putfield 126, [12, 8, 0]), (100, .goto (-24), [76])]),
  (103, [true, false, false, false], [(103, .aload_n 0, []), (104, .aload_n 0, []), (105, .invokevirtual 166, [148, 0, 1]), (108, .putfield 160, [12, 9, 0]), (111, .goto 197, [308])]),
  (114, [true, true, false, false], [(114, .iload_n 1, []), (115, .invokestatic 169, [146, 1, 1]), (118, .ifCond .ne 25, [143]), (121, .iload_n 1, []), (122, .bipush 45, []), (124, .if_icmp .ne 159, [283]), (127, .aload_n 0, []), (128, .aload_n 0, []), (129, .getfield 126, [12, 8, 0]), (132, .iconst 1, []), (133, .iadd, []), (134, .invokevirtual 157, [144, 1, 1]), (137, .invokestatic 169, [146, 1, 1]), (140, .ifCond .eq 143, [283]), (143, .nop, [143])]),
  (143, [true, true, false, false], [(143, .iload_n 1, []), (144, .bipush 45, []), (146, .if_icmp .ne 7, [153]), (149, .iconst 1, []), (150, .goto 4, [154])]),
  (153, [true, false, false, false], [(153, .iconst 0, []), (154, .nop, [154])]),
  (154, [true, false, false, false], [(154, .istore_n 2, []), (155, .iload_n 2, []), (156, .ifCond .eq 13, [169]), (159, .aload_n 0, []), (160, .dup, []), (161, .getfield 126, [12, 8, 0]), (164, .iconst 1, []), (165, .iadd, []), (166, .putfield 126, [12, 8, 0]), (169, .nop, [169])]),
  (169, [true, false, true, false], [(169, .aload_n 0, []), (170, .getfield 126, [12, 8, 0]), (173, .istore_n 3, []), (174, .aload_n 0, []), (175, .iconst 0, []), (176, .putfield 172, [12, 11, 0]), (179, .nop, [179])]),
  (179, [true, false, true, true], [(179, .aload_n 0, []), (180, .aload_n 0, []), (181, .getfield 126, [12, 8, 0]), (184, .invokevirtual 157, [144, 1, 1]), (187, .invokestatic 169, [146, 1, 1]), (190, .ifCond .eq 50, [240]), (193, .aload_n 0, []), (194, .getfield 126, [12, 8, 0]), (197, .iload_n 3, []), (198, .bipush 9, []), (200, .iadd, []), (201, .if_icmp .ge 26, [227]), (204, .aload_n 0, []), (205, .bipush 10, []), (207, .aload_n 0, []), (208, .getfield 172, [12, 11, 0]), (211, .imul, []), (212, .aload_n 0, []), (213, .aload_n 0, []), (214, .getfield 126, [12, 8, 0]), (217, .invokevirtual 157, [144, 1, 1]), (220, .iadd, []), (221, .bipush 48, []), (223, .isub, []), (224, .putfield 172, [12, 11, 0]), (227, .nop, [227])]),
  (227, [true, false, true, true], [(227, .aload_n 0, []), (228, .dup, []), (229, .getfield 126, [12, 8, 0]), (232, .iconst 1, []), (233, .iadd, []), (234, .putfield 126, [12, 8, 0]), (237, .goto (-58), [179])]),
  (240, [true, false, true, true], [(240, .aload_n 0, []), (241, .iload_n 2, []), (242, .ifCond .eq 11, [253]), (245, .aload_n 0, []), (246, .getfield 172, [12, 11, 0]), (249, .ineg, []), (250, .goto 7, [257])]),
  (253, [true, false, false, true], [(253, .aload_n 0, []), (254, .getfield 172, [12, 11, 0]), (257, .nop, [257])]),
  (257, [true, false, false, true], [(257, .putfield 172, [12, 11, 0]), (260, .aload_n 0, []), (261, .aload_n 0, []), (262, .getfield 126, [12, 8, 0]), (265, .iload_n 3, []), (266, .isub, []), (267, .bipush 10, []), (269, .if_icmp .ge 7, [276]), (272, .iconst 2, []), (273, .goto 4, [277])]),
  (276, [false, false, false, false], [(276, .iconst 1, []), (277, .nop, [277])]),
  (277, [false, false, false, false], [(277, .putfield 160, [12, 9, 0]), (280, .goto 28, [308])]),
  (283, [true, true, false, false], [(283, .aload_n 0, []), (284, .dup, []), (285, .getfield 126, [12, 8, 0]), (288, .iconst 1, []), (289, .iadd, []), (290, .putfield 126, [12, 8, 0]), (293, .aload_n 0, []), (294, .iload_n 1, []), (295, .bipush 59, []), (297, .if_icmp .ne 7, [304]), (300, .iconst 3, []), (301, .goto 4, [305])]),
  (304, [false, false, false, false], [(304, .iconst 1, []), (305, .nop, [305])]),
  (305, [false, false, false, false], [(305, .putfield 160, [12, 9, 0]), (308, .nop, [308])]),
  (308, [false, false, false, false], [(308, .return_, [])])]
def zv_b150 : List (Nat × List Bool × List zv_I) := [
  (0, [true, true, true], [(0, .aload_n 0, []), (1, .iload_n 1, []), (2, .putfield 175, [12, 12, 0]), (5, .aload_n 0, []), (6, .iload_n 2, []), (7, .putfield 178, [12, 13, 0]), (10, .iconst 0, []), (11, .ireturn, [])])]
def zv_b151 : List (Nat × List Bool × List zv_I) := [
  (0, [true, true, true], [(0, .aload_n 0, []), (1, .getfield 160, [12, 9, 0]), (4, .iconst 2, []), (5, .if_icmp .eq 13, [18]), (8, .aload_n 0, []), (9, .iconst 1, []), (10, .aload_n 0, []), (11, .getfield 129, [12, 10, 0]), (14, .invokevirtual 181, [150, 2, 1]), (17, .ireturn, [])]),
  (18, [true, true, true], [(18, .aload_n 0, []), (19, .getfield 172, [12, 11, 0]), (22, .iload_n 1, []), (23, .iload_n 2, []), (24, .invokestatic 69, [121, 3, 1]), (27, .ifCond .ne 13, [40]), (30, .aload_n 0, []), (31, .iconst 2, []), (32, .aload_n 0, []), (33, .getfield 129, [12, 10, 0]), (36, .invokevirtual 181, [150, 2, 1]), (39, .ireturn, [])]),
  (40, [true, false, false], [(40, .aload_n 0, []), (41, .aload_n 0, []), (42, .getfield 172, [12, 11, 0]), (45, .putfield 185, [12, 16, 0]), (48, .aload_n 0, []), (49, .invokevirtual 188, [149, 0, 0]), (52, .iconst 1, []), (53, .ireturn, [])])]
def zv_b152 : List (Nat × List Bool × List zv_I) := [
  (0, [true, true, true, false], [(0, .aload_n 0, []), (1, .iload_n 1, []), (2, .invokevirtual 106, [125, 1, 1]), (5, .istore_n 3, []), (6, .iload_n 3, []), (7, .iload_n 2, []), (8, .iadd, []), (9, .bipush 99, []), (11, .if_icmp .gt 17, [28]), (14, .iload_n 3, []), (15, .ifCond .ne 15, [30]), (18, .aload_n 0, []), (19, .invokevirtual 110, [127, 0, 1]), (22, .sipush 300, []), (25, .if_icmp .ne 5, [30]), (28, .nop, [28])]),
  (28, [false, false, false, false], [(28, .iconst 0, []), (29, .ireturn, [])]),
  (30, [true, true, true, true], [(30, .aload_n 0, []), (31, .iload_n 1, []), (32, .iload_n 3, []), (33, .iload_n 2, []), (34, .iadd, []), (35, .invokevirtual 113, [128, 2, 0]), (38, .iconst 1, []), (39, .ireturn, [])])]
def zv_b153 : List (Nat × List Bool × List zv_I) := [
  (0, [true, true, false, false], [(0, .aload_n 0, []), (1, .ldc 67, [0, 3294967297]), (3, .ldc 68, [0, 999999999]), (5, .invokevirtual 191, [151, 2, 1]), (8, .ifCond .ne 5, [13]), (11, .iconst 0, []), (12, .ireturn, [])]),
  (13, [true, true, false, false], [(13, .aload_n 0, []), (14, .getfield 185, [12, 16, 0]), (17, .istore_n 2, []), (18, .iconst 1, []), (19, .istore_n 3, []), (20, .aload_n 0, []), (21, .getfield 160, [12, 9, 0]), (24, .iconst 2, []), (25, .if_icmp .ne 20, [45]), (28, .aload_n 0, []), (29, .iconst 1, []), (30, .bipush 99, []), (32, .invokevirtual 191, [151, 2, 1]), (35, .ifCond .ne 5, [40]), (38, .iconst 0, []), (39, .ireturn, [])]),
  (40, [true, true, true, false], [(40, .aload_n 0, []), (41, .getfield 185, [12, 16, 0]), (44, .istore_n 3, []), (45, .nop, [45])]),
  (45, [true, true, true, true], [(45, .aload_n 0, []), (46, .iload_n 2, []), (47, .iload_n 3, []), (48, .invokevirtual 194, [152, 2, 1]), (51, .ifCond .ne 12, [63]), (54, .aload_n 0, []), (55, .iconst 3, []), (56, .iload_n 1, []), (57, .invokevirtual 181, [150, 2, 1]), (60, .ifCond .eq 7, [67]), (63, .nop, [63])]),
  (63, [false, false, false, false], [(63, .iconst 1, []), (64, .goto 4, [68])]),
  (67, [false, false, false, false], [(67, .iconst 0, []), (68, .nop, [68])]),
  (68, [false, false, false, false], [(68, .ireturn, [])])]
def zv_b154 : List (Nat × List Bool × List zv_I) := [
  (0, [true, true, false, false, false, false], [(0, .aload_n 0, []), (1, .ldc 67, [0, 3294967297]), (3, .ldc 68, [0, 999999999]), (5, .invokevirtual 191, [151, 2, 1]), (8, .ifCond .ne 5, [13]), (11, .iconst 0, []), (12, .ireturn, [])]),
  (13, [true, true, false, false, false, false], [(13, .aload_n 0, []), (14, .getfield 185, [12, 16, 0]), (17, .istore_n 2, []), (18, .aload_n 0, []), (19, .iconst 1, []), (20, .bipush 99, []), (22, .invokevirtual 191, [151, 2, 1]), (25, .ifCond .ne 5, [30]), (28, .iconst 0, []), (29, .ireturn, [])]),
  (30, [true, true, true, false, false, false], [(30, .aload_n 0, []), (31, .getfield 185, [12, 16, 0]), (34, .istore_n 3, []), (35, .aload_n 0, []), (36, .getfield 129, [12, 10, 0]), (39, .istore 4, []), (41, .aload_n 0, []), (42, .iconst 1, []), (43, .ldc 94, [0, 99999]), (45, .invokevirtual 191, [151, 2, 1]), (48, .ifCond .ne 5, [53]), (51, .iconst 0, []), (52, .ireturn, [])]),
  (53, [true, true, true, true, true, false], [(53, .iload_n 2, []), (54, .i2l, []), (55, .iload_n 3, []), (56, .iconst 1, []), (57, .isub, []), (58, .i2l, []), (59, .aload_n 0, []), (60, .getfield 185, [12, 16, 0]), (63, .i2l, []), (64, .lmul, []), (65, .ladd, []), (66, .ldc2_w 197, [999999999]), (69, .lcmp, []), (70, .ifCond .le 11, [81]), (73, .aload_n 0, []), (74, .iconst 2, []), (75, .iload 4, []), (77, .invokevirtual 181, [150, 2, 1]), (80, .ireturn, [])]),
  (81, [true, true, true, true, false, false], [(81, .iconst 0, []), (82, .istore 5, []), (84, .nop, [84])]),
  (84, [true, true, true, true, false, true], [(84, .iload 5, []), (86, .iload_n 3, []), (87, .if_icmp .ge 33, [120]), (90, .aload_n 0, []), (91, .iload_n 2, []), (92, .iload 5, []), (94, .aload_n 0, []), (95, .getfield 185, [12, 16, 0]), (98, .imul, []), (99, .iadd, []), (100, .iconst 1, []), (101, .invokevirtual 194, [152, 2, 1]), (104, .ifCond .ne 10, [114]), (107, .aload_n 0, []), (108, .iconst 3, []), (109, .iload_n 1, []), (110, .invokevirtual 181, [150, 2, 1]), (113, .ireturn, [])]),
  (114, [true, true, true, true, false, true], [(114, .iinc 5 1, []), (117, .goto (-33), [84])]),
  (120, [false, false, false, false, false, false], [(120, .iconst 1, []), (121, .ireturn, [])])]
def zv_b155 : List (Nat × List Bool × List zv_I) := [
  (0, [true, true, false, false, false], [(0, .aload_n 0, []), (1, .getfield 129, [12, 10, 0]), (4, .istore_n 2, []), (5, .aload_n 0, []), (6, .getfield 160, [12, 9, 0]), (9, .istore_n 3, []), (10, .iload_n 3, []), (11, .iconst 4, []), (12, .bipush 9, []), (14, .invokestatic 69, [121, 3, 1]), (17, .ifCond .ne 13, [30]), (20, .aload_n 0, []), (21, .iconst 1, []), (22, .aload_n 0, []), (23, .getfield 129, [12, 10, 0]), (26, .invokevirtual 181, [150, 2, 1]), (29, .ireturn, [])]),
  (30, [true, true, true, true, false], [(30, .iload_n 1, []), (31, .bipush 60, []), (33, .if_icmp .ne 13, [46]), (36, .aload_n 0, []), (37, .iconst 3, []), (38, .aload_n 0, []), (39, .getfield 129, [12, 10, 0]), (42, .invokevirtual 181, [150, 2, 1]), (45, .ireturn, [])]),
  (46, [true, false, true, true, false], [(46, .aload_n 0, []), (47, .invokevirtual 188, [149, 0, 0]), (50, .iload_n 3, []), (51, .iconst 4, []), (52, .if_icmp .eq 8, [60]), (55, .iload_n 3, []), (56, .iconst 5, []), (57, .if_icmp .ne 26, [83]), (60, .nop, [60])]),
  (60, [true, false, true, true, false], [(60, .iload_n 3, []), (61, .iconst 4, []), (62, .if_icmp .ne 11, [73]), (65, .aload_n 0, []), (66, .iload_n 2, []), (67, .invokevirtual 199, [153, 1, 1]), (70, .goto 8, [78])]),
  (73, [true, false, true, false, false], [(73, .aload_n 0, []), (74, .iload_n 2, []), (75, .invokevirtual 202, [154, 1, 1]), (78, .nop, [78])]),
  (78, [true, false, false, false, false], [(78, .istore 4, []), (80, .goto 76, [156])]),
  (83, [true, false, false, true, false], [(83, .iload_n 3, []), (84, .bipush 6, []), (86, .if_icmp .ne 30, [116]), (89, .aload_n 0, []), (90, .ldc 67, [0, 3294967297]), (92, .ldc 68, [0, 999999999]), (94, .invokevirtual 191, [151, 2, 1]), (97, .istore 4, []), (99, .iload 4, []), (101, .ifCond .eq 55, [156]), (104, .aload_n 0, []), (105, .aload_n 0, []), (106, .getfield 185, [12, 16, 0]), (109, .iconst 0, []), (110, .invokevirtual 113, [128, 2, 0]), (113, .goto 43, [156])]),
  (116, [true, false, false, true, false], [(116, .aload_n 0, []), (117, .iconst 0, []), (118, .iload_n 3, []), (119, .bipush 9, []), (121, .if_icmp .ne 8, [129]), (124, .bipush 50, []), (126, .goto 5, [131])]),
  (129, [true, false, false, true, false], [(129, .bipush 20, []), (131, .nop, [131])]),
  (131, [true, false, false, true, false], [(131, .invokevirtual 191, [151, 2, 1]), (134, .istore 4, []), (136, .iload 4, []), (138, .ifCond .eq 18, [156]), (141, .aload_n 0, []), (142, .getfield 7, [12, 0, 2]), (145, .iconst 0, []), (146, .iload_n 3, []), (147, .iadd, []), (148, .bipush 7, []), (150, .isub, []), (151, .aload_n 0, []), (152, .getfield 185, [12, 16, 0]), (155, .iastore, []), (156, .nop, [156])]),
  (156, [true, false, false, false, true], [(156, .iload 4, []), (158, .ifCond .ne 5, [163]), (161, .iconst 0, []), (162, .ireturn, [])]),
  (163, [true, false, false, false, false], [(163, .aload_n 0, []), (164, .getfield 160, [12, 9, 0]), (167, .iconst 3, []), (168, .if_icmp .eq 13, [181]), (171, .aload_n 0, []), (172, .iconst 1, []), (173, .aload_n 0, []), (174, .getfield 129, [12, 10, 0]), (177, .invokevirtual 181, [150, 2, 1]), (180, .ireturn, [])]),
  (181, [true, false, false, false, false], [(181, .aload_n 0, []), (182, .invokevirtual 188, [149, 0, 0]), (185, .iconst 1, []), (186, .ireturn, [])])]
def zv_b156 : List (Nat × List Bool × List zv_I) := [
  (0, [true, false, false, false], [(0, .aload_n 0, []), (1, .iconst 0, []), (2, .putfield 175, [12, 12, 0]), (5, .aload_n 0, []), (6, .iconst 0, []), (7, .putfield 126, [12, 8, 0]), (10, .iconst 0, []), (11, .istore_n 1, []), (12, .nop, [12])]),
  (12, [true, true, false, false], [(12, .iload_n 1, []), (13, .sipush 1668, []), (16, .if_icmp .ge 21, [37]), (19, .aload_n 0, []), (20, .getfield 16, [12, 2, 2]), (23, .iload_n 1, []), (24, .aload_n 0, []), (25, .getfield 7, [12, 0, 2]), (28, .iload_n 1, []), (29, .iaload, []), (30, .iastore, []), (31, .iinc 1 1, []), (34, .goto (-22), [12])]),
  (37, [true, false, false, false], [(37, .aload_n 0, []), (38, .invokevirtual 188, [149, 0, 0]), (41, .iconst 1, []), (42, .istore_n 1, []), (43, .iconst 0, []), (44, .istore_n 2, []), (45, .nop, [45])]),
  (45, [true, true, true, false], [(45, .iload_n 1, []), (46, .ifCond .eq 22, [68]), (49, .aload_n 0, []), (50, .getfield 160, [12, 9, 0]), (53, .ifCond .eq 15, [68]), (56, .aload_n 0, []), (57, .iload_n 2, []), (58, .invokevirtual 205, [155, 1, 1]), (61, .istore_n 1, []), (62, .iinc 2 1, []), (65, .goto (-20), [45])]),
  (68, [true, true, false, false], [(68, .aload_n 0, []), (69, .iconst 0, []), (70, .putfield 123, [12, 7, 0]), (73, .aload_n 0, []), (74, .aload_n 0, []), (75, .getfield 175, [12, 12, 0]), (78, .putfield 208, [12, 14, 0]), (81, .aload_n 0, []), (82, .iload_n 1, []), (83, .ifCond .eq 7, [90]), (86, .iconst (-1), []), (87, .goto 7, [94])]),
  (90, [true, true, false, false], [(90, .aload_n 0, []), (91, .getfield 178, [12, 13, 0]), (94, .nop, [94])]),
  (94, [true, true, false, false], [(94, .putfield 28, [12, 15, 0]), (97, .iload_n 1, []), (98, .ifCond .eq 8, [106]), (101, .aload_n 0, []), (102, .invokevirtual 95, [132, 0, 1]), (105, .ireturn, [])]),
  (106, [true, false, false, false], [(106, .iconst 0, []), (107, .istore_n 3, []), (108, .nop, [108])]),
  (108, [true, false, false, true], [(108, .iload_n 3, []), (109, .sipush 1668, []), (112, .if_icmp .ge 21, [133]), (115, .aload_n 0, []), (116, .getfield 7, [12, 0, 2]), (119, .iload_n 3, []), (120, .aload_n 0, []), (121, .getfield 16, [12, 2, 2]), (124, .iload_n 3, []), (125, .iaload, []), (126, .iastore, []), (127, .iinc 3 1, []), (130, .goto (-22), [108])]),
  (133, [false, false, false, false], [(133, .iconst (-1), []), (134, .ireturn, [])])]
def zv_b157 : List (Nat × List Bool × List zv_I) := [
  (0, [true, true], [(0, .iload_n 1, []), (1, .ifCond .ne 10, [11]), (4, .aload_n 0, []), (5, .getfield 208, [12, 14, 0]), (8, .goto 16, [24])]),
  (11, [true, true], [(11, .iload_n 1, []), (12, .iconst 1, []), (13, .if_icmp .ne 10, [23]), (16, .aload_n 0, []), (17, .getfield 28, [12, 15, 0]), (20, .goto 4, [24])]),
  (23, [false, false], [(23, .iconst (-1), []), (24, .nop, [24])]),
  (24, [false, false], [(24, .ireturn, [])])]
def zv_b158 : List (Nat × List Bool × List zv_I) := [
  (0, [true, false, true, false, false, false, false, false, false, false], [(0, .lload_n 0, []), (1, .lstore 4, []), (3, .lload_n 2, []), (4, .lstore 6, []), (6, .nop, [6])]),
  (6, [false, false, false, false, true, false, true, false, false, false], [(6, .lload 6, []), (8, .lconst 0, []), (9, .lcmp, []), (10, .ifCond .eq 21, [31]), (13, .lload 4, []), (15, .lload 6, []), (17, .lrem, []), (18, .lstore 8, []), (20, .lload 6, []), (22, .lstore 4, []), (24, .lload 8, []), (26, .lstore 6, []), (28, .goto (-22), [6])]),
  (31, [false, false, false, false, true, false, false, false, false, false], [(31, .lload 4, []), (33, .lconst 0, []), (34, .lcmp, []), (35, .ifCond .ge 9, [44]), (38, .lload 4, []), (40, .lneg, []), (41, .goto 5, [46])]),
  (44, [false, false, false, false, true, false, false, false, false, false], [(44, .lload 4, []), (46, .nop, [46])]),
  (46, [false, false, false, false, false, false, false, false, false, false], [(46, .lreturn, [])])]
def zv_b159 : List (Nat × List Bool × List zv_I) := [
  (0, [true, true, true, true, false, false, false, false, false, false, false, false, false, false, false, false, false, false, false], [(0, .aload_n 0, []), (1, .getfield 211, [12, 26, 1]), (4, .lstore 4, []), (6, .aload_n 0, []), (7, .getfield 215, [12, 27, 1]), (10, .lstore 6, []), (12, .aload_n 0, []), (13, .getfield 218, [12, 28, 1]), (16, .lstore 8, []), (18, .aload_n 0, []), (19, .getfield 221, [12, 29, 1]), (22, .lstore 10, []), (24, .iload_n 2, []), (25, .istore 12, []), (27, .nop, [27])]),
  (27, [true, true, false, true, true, false, true, false, true, false, true, false, true, false, false, false, false, false, false], [(27, .iload 12, []), (29, .iload_n 3, []), (30, .if_icmp .ge 127, [157]), (33, .aload_n 0, []), (34, .getfield 34, [12, 17, 2]), (37, .iload_n 1, []), (38, .aaload, []), (39, .iload_n 3, []), (40, .iaload, []), (41, .i2l, []), (42, .aload_n 0, []), (43, .getfield 34, [12, 17, 2]), (46, .iload_n 1, []), (47, .aaload, []), (48, .iload 12, []), (50, .iaload, []), (51, .i2l, []), (52, .lsub, []), (53, .lstore 13, []), (55, .iload_n 3, []), (56, .iload 12, []), (58, .isub, []), (59, .i2l, []), (60, .ldc2_w 224, [2]), (63, .aload_n 0, []), (64, .getfield 57, [12, 24, 2]), (67, .iload_n 1, []), (68, .iaload, []), (69, .i2l, []), (70, .lmul, []), (71, .lsub, []), (72, .lstore 15, []), (74, .iload_n 3, []), (75, .iload 12, []), (77, .isub, []), (78, .i2l, []), (79, .ldc2_w 224, [2]), (82, .aload_n 0, []), (83, .getfield 57, [12, 24, 2]), (86, .iload_n 1, []), (87, .iaload, []), (88, .i2l, []), (89, .lmul, []), (90, .ladd, []), (91, .lstore 17, []), (93, .lload 6, []), (95, .lconst 0, []), (96, .lcmp, []), (97, .ifCond .eq 17, [114]), (100, .lload 15, []), (102, .lload 6, []), (104, .lmul, []), (105, .lload 4, []), (107, .lload 13, []), (109, .lmul, []), (110, .lcmp, []), (111, .ifCond .le 11, [122]), (114, .nop, [114])]),
  (114, [true, true, false, true, false, false, false, false, true, false, true, false, true, true, false, true, false, true, false], [(114, .lload 15, []), (116, .lstore 4, []), (118, .lload 13, []), (120, .lstore 6, []), (122, .nop, [122])]),
  (122, [true, true, false, true, true, false, true, false, true, false, true, false, true, true, false, false, false, true, false], [(122, .lload 10, []), (124, .lconst 0, []), (125, .lcmp, []), (126, .ifCond .eq 17, [143]), (129, .lload 17, []), (131, .lload 10, []), (133, .lmul, []), (134, .lload 8, []), (136, .lload 13, []), (138, .lmul, []), (139, .lcmp, []), (140, .ifCond .ge 11, [151]), (143, .nop, [143])]),
  (143, [true, true, false, true, true, false, true, false, false, false, false, false, true, true, false, false, false, true, false], [(143, .lload 17, []), (145, .lstore 8, []), (147, .lload 13, []), (149, .lstore 10, []), (151, .nop, [151])]),
  (151, [true, true, false, true, true, false, true, false, true, false, true, false, true, false, false, false, false, false, false], [(151, .iinc 12 1, []), (154, .goto (-127), [27])]),
  (157, [true, false, false, false, true, false, true, false, true, false, true, false, false, false, false, false, false, false, false], [(157, .lload 6, []), (159, .lconst 0, []), (160, .lcmp, []), (161, .ifCond .le 19, [180]), (164, .lload 4, []), (166, .lload 10, []), (168, .lmul, []), (169, .lload 8, []), (171, .lload 6, []), (173, .lmul, []), (174, .lcmp, []), (175, .ifCond .le 5, [180]), (178, .iconst 0, []), (179, .ireturn, [])]),
  (180, [true, false, false, false, true, false, true, false, true, false, true, false, false, false, false, false, false, false, false], [(180, .aload_n 0, []), (181, .lload 4, []), (183, .putfield 211, [12, 26, 1]), (186, .aload_n 0, []), (187, .lload 6, []), (189, .putfield 215, [12, 27, 1]), (192, .aload_n 0, []), (193, .lload 8, []), (195, .putfield 218, [12, 28, 1]), (198, .aload_n 0, []), (199, .lload 10, []), (201, .putfield 221, [12, 29, 1]), (204, .iconst 1, []), (205, .ireturn, [])])]
def zv_b160 : List (Nat × List Bool × List zv_I) := [
  (0, [true, true, false, false, false, false, false, false], [(0, .aload_n 0, []), (1, .getfield 54, [12, 23, 2]), (4, .iload_n 1, []), (5, .iconst 0, []), (6, .iastore, []), (7, .iconst 0, []), (8, .istore_n 2, []), (9, .nop, [9])]),
  (9, [true, true, true, false, false, false, false, false], [(9, .iload_n 2, []), (10, .aload_n 0, []), (11, .getfield 51, [12, 22, 2]), (14, .iload_n 1, []), (15, .iaload, []), (16, .if_icmp .ge 185, [201]), (19, .aload_n 0, []), (20, .lconst 0, []), (21, .putfield 215, [12, 27, 1]), (24, .aload_n 0, []), (25, .lconst 0, []), (26, .putfield 221, [12, 29, 1]), (29, .iload_n 2, []), (30, .iconst 1, []), (31, .iadd, []), (32, .istore_n 3, []), (33, .nop, [33])]),
  (33, [true, true, true, true, false, false, false, false], [(33, .iload_n 3, []), (34, .aload_n 0, []), (35, .getfield 51, [12, 22, 2]), (38, .iload_n 1, []), (39, .iaload, []), (40, .if_icmp .ge 19, [59]), (43, .aload_n 0, []), (44, .iload_n 1, []), (45, .iload_n 2, []), (46, .iload_n 3, []), (47, .invokevirtual 226, [159, 3, 1]), (50, .ifCond .eq 9, [59]), (53, .iinc 3 1, []), (56, .goto (-23), [33])]),
  (59, [true, true, true, true, false, false, false, false], [(59, .aload_n 0, []), (60, .getfield 54, [12, 23, 2]), (63, .iload_n 1, []), (64, .iaload, []), (65, .istore 4, []), (67, .aload_n 0, []), (68, .getfield 37, [12, 18, 2]), (71, .iload_n 1, []), (72, .aaload, []), (73, .iload 4, []), (75, .iload_n 2, []), (76, .iastore, []), (77, .aload_n 0, []), (78, .getfield 40, [12, 19, 2]), (81, .iload_n 1, []), (82, .aaload, []), (83, .iload 4, []), (85, .iload_n 3, []), (86, .iconst 1, []), (87, .isub, []), (88, .iastore, []), (89, .aload_n 0, []), (90, .getfield 215, [12, 27, 1]), (93, .lconst 0, []), (94, .lcmp, []), (95, .ifCond .eq 12, [107]), (98, .aload_n 0, []), (99, .getfield 211, [12, 26, 1]), (102, .lconst 0, []), (103, .lcmp, []), (104, .ifCond .gt 7, [111]), (107, .nop, [107])]),
  (107, [true, true, false, true, true, false, false, false], [(107, .iconst 1, []), (108, .goto 4, [112])]),
  (111, [true, true, false, true, true, false, false, false], [(111, .iconst 0, []), (112, .nop, [112])]),
  (112, [true, true, false, true, true, false, false, false], [(112, .istore 5, []), (114, .iload 5, []), (116, .ifCond .eq 7, [123]), (119, .lconst 1, []), (120, .goto 14, [134])]),
  (123, [true, true, false, true, true, true, false, false], [(123, .aload_n 0, []), (124, .getfield 211, [12, 26, 1]), (127, .aload_n 0, []), (128, .getfield 215, [12, 27, 1]), (131, .invokestatic 229, [158, 2, 2]), (134, .nop, [134])]),
  (134, [true, true, false, true, true, true, false, false], [(134, .lstore 6, []), (136, .aload_n 0, []), (137, .getfield 45, [12, 20, 2]), (140, .iload_n 1, []), (141, .aaload, []), (142, .iload 4, []), (144, .iload 5, []), (146, .ifCond .eq 7, [153]), (149, .lconst 0, []), (150, .goto 10, [160])]),
  (153, [true, true, false, true, true, true, true, false], [(153, .aload_n 0, []), (154, .getfield 211, [12, 26, 1]), (157, .lload 6, []), (159, .ldiv, []), (160, .nop, [160])]),
  (160, [true, true, false, true, true, true, true, false], [(160, .lastore, []), (161, .aload_n 0, []), (162, .getfield 48, [12, 21, 2]), (165, .iload_n 1, []), (166, .aaload, []), (167, .iload 4, []), (169, .iload 5, []), (171, .ifCond .eq 7, [178]), (174, .lconst 1, []), (175, .goto 10, [185])]),
  (178, [true, true, false, true, false, false, true, false], [(178, .aload_n 0, []), (179, .getfield 215, [12, 27, 1]), (182, .lload 6, []), (184, .ldiv, []), (185, .nop, [185])]),
  (185, [true, true, false, true, false, false, false, false], [(185, .lastore, []), (186, .aload_n 0, []), (187, .getfield 54, [12, 23, 2]), (190, .iload_n 1, []), (191, .dup2, []), (192, .iaload, []), (193, .iconst 1, []), (194, .iadd, []), (195, .iastore, []), (196, .iload_n 3, []), (197, .istore_n 2, []), (198, .goto (-189), [9])]),
  (201, [false, false, false, false, false, false, false, false], [(201, .return_, [])])]
def zv_b161 : List (Nat × List Bool × List zv_I) := [
  (0, [true, true, true, false, false], [(0, .aload_n 0, []), (1, .getfield 51, [12, 22, 2]), (4, .iconst 0, []), (5, .iload_n 1, []), (6, .iastore, []), (7, .aload_n 0, []), (8, .getfield 57, [12, 24, 2]), (11, .iconst 0, []), (12, .iload_n 2, []), (13, .iastore, []), (14, .aload_n 0, []), (15, .iconst 0, []), (16, .putfield 233, [12, 25, 0]), (19, .iload_n 1, []), (20, .ifCond .le 7, [27]), (23, .iconst 1, []), (24, .goto 4, [28])]),
  (27, [true, false, false, false, false], [(27, .iconst 0, []), (28, .nop, [28])]),
  (28, [true, false, false, false, false], [(28, .istore_n 3, []), (29, .nop, [29])]),
  (29, [true, false, false, true, false], [(29, .iload_n 3, []), (30, .ifCond .eq 148, [178]), (33, .aload_n 0, []), (34, .aload_n 0, []), (35, .getfield 233, [12, 25, 0]), (38, .invokevirtual 236, [160, 1, 0]), (41, .aload_n 0, []), (42, .dup, []), (43, .getfield 233, [12, 25, 0]), (46, .iconst 1, []), (47, .iadd, []), (48, .putfield 233, [12, 25, 0]), (51, .aload_n 0, []), (52, .getfield 54, [12, 23, 2]), (55, .aload_n 0, []), (56, .getfield 233, [12, 25, 0]), (59, .iconst 1, []), (60, .isub, []), (61, .iaload, []), (62, .iconst 1, []), (63, .if_icmp .le 7, [70]), (66, .iconst 1, []), (67, .goto 4, [71])]),
  (70, [true, false, false, false, false], [(70, .iconst 0, []), (71, .nop, [71])]),
  (71, [true, false, false, false, false], [(71, .istore_n 3, []), (72, .iload_n 3, []), (73, .ifCond .ne 6, [79]), (76, .goto (-47), [29])]),
  (79, [true, false, false, true, false], [(79, .aload_n 0, []), (80, .getfield 51, [12, 22, 2]), (83, .aload_n 0, []), (84, .getfield 233, [12, 25, 0]), (87, .aload_n 0, []), (88, .getfield 54, [12, 23, 2]), (91, .aload_n 0, []), (92, .getfield 233, [12, 25, 0]), (95, .iconst 1, []), (96, .isub, []), (97, .iaload, []), (98, .iastore, []), (99, .aload_n 0, []), (100, .getfield 57, [12, 24, 2]), (103, .aload_n 0, []), (104, .getfield 233, [12, 25, 0]), (107, .aload_n 0, []), (108, .getfield 7, [12, 0, 2]), (111, .iconst 1, []), (112, .iaload, []), (113, .iastore, []), (114, .iconst 0, []), (115, .istore 4, []), (117, .nop, [117])]),
  (117, [true, false, false, true, true], [(117, .iload 4, []), (119, .aload_n 0, []), (120, .getfield 51, [12, 22, 2]), (123, .aload_n 0, []), (124, .getfield 233, [12, 25, 0]), (127, .iaload, []), (128, .if_icmp .ge 47, [175]), (131, .aload_n 0, []), (132, .getfield 34, [12, 17, 2]), (135, .aload_n 0, []), (136, .getfield 233, [12, 25, 0]), (139, .aaload, []), (140, .iload 4, []), (142, .aload_n 0, []), (143, .getfield 34, [12, 17, 2]), (146, .aload_n 0, []), (147, .getfield 233, [12, 25, 0]), (150, .iconst 1, []), (151, .isub, []), (152, .aaload, []), (153, .aload_n 0, []), (154, .getfield 37, [12, 18, 2]), (157, .aload_n 0, []), (158, .getfield 233, [12, 25, 0]), (161, .iconst 1, []), (162, .isub, []), (163, .aaload, []), (164, .iload 4, []), (166, .iaload, []), (167, .iaload, []), (168, .iastore, []), (169, .iinc 4 1, []), (172, .goto (-55), [117])]),
  (175, [true, false, false, true, false], [(175, .goto (-146), [29])]),
  (178, [false, false, false, false, false], [(178, .return_, [])])]
def zv_b162 : List (Nat × List Bool × List zv_I) := [
  (0, [true, true, false], [(0, .iconst 0, []), (1, .istore_n 2, []), (2, .nop, [2])]),
  (2, [true, true, true], [(2, .iload_n 2, []), (3, .aload_n 0, []), (4, .getfield 7, [12, 0, 2]), (7, .bipush 8, []), (9, .iaload, []), (10, .if_icmp .ge 26, [36]), (13, .aload_n 0, []), (14, .getfield 34, [12, 17, 2]), (17, .iconst 0, []), (18, .aaload, []), (19, .iload_n 2, []), (20, .aload_n 0, []), (21, .getfield 7, [12, 0, 2]), (24, .bipush 20, []), (26, .iload_n 2, []), (27, .iadd, []), (28, .iaload, []), (29, .iastore, []), (30, .iinc 2 1, []), (33, .goto (-31), [2])]),
  (36, [true, true, false], [(36, .aload_n 0, []), (37, .aload_n 0, []), (38, .getfield 7, [12, 0, 2]), (41, .bipush 8, []), (43, .iaload, []), (44, .iload_n 1, []), (45, .invokevirtual 240, [161, 2, 0]), (48, .return_, [])])]
def zv_b163 : List (Nat × List Bool × List zv_I) := [
  (0, [true, false, true, false, false, false], [(0, .lload_n 0, []), (1, .lload_n 2, []), (2, .ldiv, []), (3, .lstore 4, []), (5, .lload_n 0, []), (6, .lload_n 2, []), (7, .lrem, []), (8, .lconst 0, []), (9, .lcmp, []), (10, .ifCond .eq 16, [26]), (13, .lload_n 0, []), (14, .lconst 0, []), (15, .lcmp, []), (16, .ifCond .ge 10, [26]), (19, .lload 4, []), (21, .lconst 1, []), (22, .lsub, []), (23, .goto 5, [28])]),
  (26, [false, false, false, false, true, false], [(26, .lload 4, []), (28, .nop, [28])]),
  (28, [false, false, false, false, false, false], [(28, .lreturn, [])])]
def zv_b164 : List (Nat × List Bool × List zv_I) := [
  (0, [true, true, true, true, false, false, false, false, false], [(0, .ldc2_w 245, [9223372036854775808]), (3, .lstore 4, []), (5, .aload_n 0, []), (6, .getfield 37, [12, 18, 2]), (9, .iload_n 1, []), (10, .aaload, []), (11, .iload_n 2, []), (12, .iaload, []), (13, .istore 6, []), (15, .nop, [15])]),
  (15, [true, true, true, true, true, false, true, false, false], [(15, .iload 6, []), (17, .aload_n 0, []), (18, .getfield 40, [12, 19, 2]), (21, .iload_n 1, []), (22, .aaload, []), (23, .iload_n 2, []), (24, .iaload, []), (25, .if_icmp .gt 72, [97]), (28, .iload 6, []), (30, .aload_n 0, []), (31, .getfield 57, [12, 24, 2]), (34, .iload_n 1, []), (35, .iaload, []), (36, .isub, []), (37, .i2l, []), (38, .aload_n 0, []), (39, .getfield 45, [12, 20, 2]), (42, .iload_n 1, []), (43, .aaload, []), (44, .iload_n 2, []), (45, .laload, []), (46, .iload_n 3, []), (47, .i2l, []), (48, .aload_n 0, []), (49, .getfield 34, [12, 17, 2]), (52, .iload_n 1, []), (53, .aaload, []), (54, .iload 6, []), (56, .iaload, []), (57, .i2l, []), (58, .lsub, []), (59, .lmul, []), (60, .aload_n 0, []), (61, .getfield 48, [12, 21, 2]), (64, .iload_n 1, []), (65, .aaload, []), (66, .iload_n 2, []), (67, .laload, []), (68, .invokestatic 247, [163, 2, 2]), (71, .ladd, []), (72, .lstore 7, []), (74, .lload 7, []), (76, .lload 4, []), (78, .lcmp, []), (79, .ifCond .le 8, [87]), (82, .lload 7, []), (84, .goto 5, [89])]),
  (87, [true, true, true, true, true, false, true, false, false], [(87, .lload 4, []), (89, .nop, [89])]),
  (89, [true, true, true, true, false, false, true, false, false], [(89, .lstore 4, []), (91, .iinc 6 1, []), (94, .goto (-79), [15])]),
  (97, [true, true, true, false, true, false, false, false, false], [(97, .aload_n 0, []), (98, .getfield 40, [12, 19, 2]), (101, .iload_n 1, []), (102, .aaload, []), (103, .iload_n 2, []), (104, .iaload, []), (105, .i2l, []), (106, .lconst 1, []), (107, .ladd, []), (108, .lstore 6, []), (110, .lload 4, []), (112, .lconst 0, []), (113, .lcmp, []), (114, .ifCond .ge 7, [121]), (117, .lconst 0, []), (118, .goto 18, [136])]),
  (121, [false, false, false, false, true, false, true, false, false], [(121, .lload 4, []), (123, .lload 6, []), (125, .lcmp, []), (126, .ifCond .le 8, [134]), (129, .lload 6, []), (131, .goto 5, [136])]),
  (134, [false, false, false, false, true, false, false, false, false], [(134, .lload 4, []), (136, .nop, [136])]),
  (136, [false, false, false, false, false, false, false, false, false], [(136, .l2i, []), (137, .ireturn, [])])]
def zv_b165 : List (Nat × List Bool × List zv_I) := [
  (0, [true, true, true], [(0, .iload_n 1, []), (1, .iconst 0, []), (2, .aload_n 0, []), (3, .getfield 233, [12, 25, 0]), (6, .iconst 1, []), (7, .isub, []), (8, .invokestatic 69, [121, 3, 1]), (11, .ifCond .eq 23, [34]), (14, .iload_n 2, []), (15, .iconst 0, []), (16, .aload_n 0, []), (17, .getfield 54, [12, 23, 2]), (20, .iload_n 1, []), (21, .iaload, []), (22, .iconst 1, []), (23, .isub, []), (24, .invokestatic 69, [121, 3, 1]), (27, .ifCond .eq 7, [34]), (30, .iconst 1, []), (31, .goto 4, [35])]),
  (34, [false, false, false], [(34, .iconst 0, []), (35, .nop, [35])]),
  (35, [false, false, false], [(35, .ireturn, [])])]
def zv_b166 : List (Nat × List Bool × List zv_I) := [
  (0, [true, true, true, true], [(0, .aload_n 0, []), (1, .aload_n 0, []), (2, .getfield 7, [12, 0, 2]), (5, .iconst 0, []), (6, .iaload, []), (7, .invokevirtual 250, [162, 1, 0]), (10, .aload_n 0, []), (11, .iload_n 1, []), (12, .iload_n 2, []), (13, .invokevirtual 253, [165, 2, 1]), (16, .ifCond .ne 6, [22]), (19, .ldc 120, [0, 3294967295]), (21, .ireturn, [])]),
  (22, [true, true, true, true], [(22, .iload_n 3, []), (23, .tableswitch 87 0 4 #[33, 42, 51, 61, 71], [33, 110, 56, 65, 74, 84, 94])]),
  (56, [true, true, true, false], [(56, .aload_n 0, []), (57, .getfield 37, [12, 18, 2]), (60, .iload_n 1, []), (61, .aaload, []), (62, .iload_n 2, []), (63, .iaload, []), (64, .ireturn, [])]),
  (65, [true, true, true, false], [(65, .aload_n 0, []), (66, .getfield 40, [12, 19, 2]), (69, .iload_n 1, []), (70, .aaload, []), (71, .iload_n 2, []), (72, .iaload, []), (73, .ireturn, [])]),
  (74, [true, true, true, false], [(74, .aload_n 0, []), (75, .getfield 45, [12, 20, 2]), (78, .iload_n 1, []), (79, .aaload, []), (80, .iload_n 2, []), (81, .laload, []), (82, .l2i, []), (83, .ireturn, [])]),
  (84, [true, true, true, false], [(84, .aload_n 0, []), (85, .getfield 48, [12, 21, 2]), (88, .iload_n 1, []), (89, .aaload, []), (90, .iload_n 2, []), (91, .laload, []), (92, .l2i, []), (93, .ireturn, [])]),
  (94, [true, true, true, false], [(94, .aload_n 0, []), (95, .getfield 34, [12, 17, 2]), (98, .iload_n 1, []), (99, .aaload, []), (100, .aload_n 0, []), (101, .getfield 37, [12, 18, 2]), (104, .iload_n 1, []), (105, .aaload, []), (106, .iload_n 2, []), (107, .iaload, []), (108, .iaload, []), (109, .ireturn, [])]),
  (110, [false, false, false, false], [(110, .ldc 120, [0, 3294967295]), (112, .ireturn, [])])]
def zv_b167 : List (Nat × List Bool × List zv_I) := [
  (0, [true, true, true, true], [(0, .aload_n 0, []), (1, .aload_n 0, []), (2, .getfield 7, [12, 0, 2]), (5, .iconst 0, []), (6, .iaload, []), (7, .invokevirtual 250, [162, 1, 0]), (10, .aload_n 0, []), (11, .iload_n 1, []), (12, .iload_n 2, []), (13, .invokevirtual 253, [165, 2, 1]), (16, .ifCond .eq 13, [29]), (19, .aload_n 0, []), (20, .iload_n 1, []), (21, .iload_n 2, []), (22, .iload_n 3, []), (23, .invokevirtual 256, [164, 3, 1]), (26, .goto 4, [30])]),
  (29, [false, false, false, false], [(29, .iconst (-1), []), (30, .nop, [30])]),
  (30, [false, false, false, false], [(30, .ireturn, [])])]
def zv_b168 : List (Nat × List Bool × List zv_I) := [
  (0, [true, true, true, true, true, false, false, false, false], [(0, .iload_n 2, []), (1, .istore 5, []), (3, .iload_n 3, []), (4, .istore 6, []), (6, .nop, [6])]),
  (6, [true, true, false, false, true, true, true, false, false], [(6, .iload 5, []), (8, .iload 6, []), (10, .if_icmp .ge 90, [100]), (13, .iload 5, []), (15, .iload 6, []), (17, .iadd, []), (18, .iconst 2, []), (19, .idiv, []), (20, .istore 7, []), (22, .aload_n 0, []), (23, .dup, []), (24, .getfield 259, [12, 30, 0]), (27, .iconst 1, []), (28, .iadd, []), (29, .putfield 259, [12, 30, 0]), (32, .iload_n 1, []), (33, .ifCond .ne 25, [58]), (36, .aload_n 0, []), (37, .getfield 34, [12, 17, 2]), (40, .iload_n 1, []), (41, .aaload, []), (42, .iload 7, []), (44, .iaload, []), (45, .iload 4, []), (47, .if_icmp .ge 7, [54]), (50, .iconst 1, []), (51, .goto 26, [77])]),
  (54, [true, true, false, false, true, true, true, true, false], [(54, .iconst 0, []), (55, .goto 22, [77])]),
  (58, [true, true, false, false, true, true, true, true, false], [(58, .aload_n 0, []), (59, .getfield 34, [12, 17, 2]), (62, .iload_n 1, []), (63, .aaload, []), (64, .iload 7, []), (66, .iaload, []), (67, .iload 4, []), (69, .if_icmp .gt 7, [76]), (72, .iconst 1, []), (73, .goto 4, [77])]),
  (76, [true, true, false, false, true, true, true, true, false], [(76, .iconst 0, []), (77, .nop, [77])]),
  (77, [true, true, false, false, true, true, true, true, false], [(77, .istore 8, []), (79, .iload 8, []), (81, .ifCond .eq 12, [93]), (84, .iload 7, []), (86, .iconst 1, []), (87, .iadd, []), (88, .istore 5, []), (90, .goto 7, [97])]),
  (93, [true, true, false, false, true, true, false, true, false], [(93, .iload 7, []), (95, .istore 6, []), (97, .nop, [97])]),
  (97, [true, true, false, false, true, true, true, false, false], [(97, .goto (-91), [6])]),
  (100, [false, false, false, false, false, true, false, false, false], [(100, .iload 5, []), (102, .ireturn, [])])]
def zv_b169 : List (Nat × List Bool × List zv_I) := [
  (0, [true, true, false, false, false, false, false, false], [(0, .aload_n 0, []), (1, .iconst 0, []), (2, .putfield 259, [12, 30, 0]), (5, .iconst 0, []), (6, .istore_n 2, []), (7, .iconst 0, []), (8, .istore_n 3, []), (9, .aload_n 0, []), (10, .getfield 233, [12, 25, 0]), (13, .iconst 1, []), (14, .isub, []), (15, .istore 4, []), (17, .nop, [17])]),
  (17, [true, true, true, true, true, false, false, false], [(17, .iload 4, []), (19, .ifCond .lt 102, [121]), (22, .aload_n 0, []), (23, .iload 4, []), (25, .iload_n 2, []), (26, .iload_n 1, []), (27, .invokevirtual 256, [164, 3, 1]), (30, .istore 5, []), (32, .iload 5, []), (34, .aload_n 0, []), (35, .getfield 57, [12, 24, 2]), (38, .iload 4, []), (40, .iaload, []), (41, .isub, []), (42, .iconst 1, []), (43, .isub, []), (44, .istore 6, []), (46, .iload 5, []), (48, .aload_n 0, []), (49, .getfield 57, [12, 24, 2]), (52, .iload 4, []), (54, .iaload, []), (55, .iadd, []), (56, .iconst 2, []), (57, .iadd, []), (58, .istore 7, []), (60, .aload_n 0, []), (61, .iload 4, []), (63, .iload 6, []), (65, .ifCond .ge 7, [72]), (68, .iconst 0, []), (69, .goto 5, [74])]),
  (72, [true, true, false, false, true, false, true, true], [(72, .iload 6, []), (74, .nop, [74])]),
  (74, [true, true, false, false, true, false, false, true], [(74, .iload 7, []), (76, .aload_n 0, []), (77, .getfield 51, [12, 22, 2]), (80, .iload 4, []), (82, .iaload, []), (83, .if_icmp .le 13, [96]), (86, .aload_n 0, []), (87, .getfield 51, [12, 22, 2]), (90, .iload 4, []), (92, .iaload, []), (93, .goto 5, [98])]),
  (96, [true, true, false, false, true, false, false, true], [(96, .iload 7, []), (98, .nop, [98])]),
  (98, [true, true, false, false, true, false, false, false], [(98, .iload_n 1, []), (99, .invokevirtual 262, [168, 4, 1]), (102, .istore_n 3, []), (103, .iload_n 3, []), (104, .ifCond .le 9, [113]), (107, .iload_n 3, []), (108, .iconst 1, []), (109, .isub, []), (110, .goto 4, [114])]),
  (113, [true, true, false, true, true, false, false, false], [(113, .iconst 0, []), (114, .nop, [114])]),
  (114, [true, true, false, true, true, false, false, false], [(114, .istore_n 2, []), (115, .iinc 4 (-1), []), (118, .goto (-101), [17])]),
  (121, [false, false, false, true, false, false, false, false], [(121, .iload_n 3, []), (122, .ireturn, [])])]
def zv_b170 : List (Nat × List Bool × List zv_I) := [
  (0, [true, true, true, false], [(0, .iload_n 2, []), (1, .iconst 0, []), (2, .iconst 2, []), (3, .invokestatic 69, [121, 3, 1]), (6, .ifCond .ne 5, [11]), (9, .iconst (-1), []), (10, .ireturn, [])]),
  (11, [true, true, true, false], [(11, .aload_n 0, []), (12, .aload_n 0, []), (13, .getfield 7, [12, 0, 2]), (16, .iconst 0, []), (17, .iaload, []), (18, .invokevirtual 250, [162, 1, 0]), (21, .iload_n 2, []), (22, .iconst 2, []), (23, .if_icmp .ge 22, [45]), (26, .aload_n 0, []), (27, .iload_n 1, []), (28, .invokevirtual 266, [169, 1, 1]), (31, .istore_n 3, []), (32, .iload_n 2, []), (33, .ifCond .ne 7, [40]), (36, .iload_n 3, []), (37, .goto 7, [44])]),
  (40, [true, false, false, false], [(40, .aload_n 0, []), (41, .getfield 259, [12, 30, 0]), (44, .nop, [44])]),
  (44, [false, false, false, false], [(44, .ireturn, [])]),
  (45, [true, true, false, false], [(45, .aload_n 0, []), (46, .iconst 0, []), (47, .putfield 259, [12, 30, 0]), (50, .aload_n 0, []), (51, .iconst 0, []), (52, .iconst 0, []), (53, .aload_n 0, []), (54, .getfield 7, [12, 0, 2]), (57, .bipush 8, []), (59, .iaload, []), (60, .iload_n 1, []), (61, .invokevirtual 262, [168, 4, 1]), (64, .pop, []), (65, .aload_n 0, []), (66, .getfield 259, [12, 30, 0]), (69, .ireturn, [])])]
def zv_b171 : List (Nat × List Bool × List zv_I) := [
  (0, [true, true, true, false], [(0, .iconst 0, []), (1, .istore_n 3, []), (2, .nop, [2])]),
  (2, [true, true, true, true], [(2, .aload_n 0, []), (3, .getfield 40, [12, 19, 2]), (6, .iload_n 1, []), (7, .aaload, []), (8, .iload_n 3, []), (9, .iaload, []), (10, .iload_n 2, []), (11, .if_icmp .ge 9, [20]), (14, .iinc 3 1, []), (17, .goto (-15), [2])]),
  (20, [false, false, false, true], [(20, .iload_n 3, []), (21, .ireturn, [])])]
def zv_b172 : List (Nat × List Bool × List zv_I) := [
  (0, [true, true, false, false, false, false, false, false], [(0, .iload_n 1, []), (1, .iconst 0, []), (2, .iconst 1, []), (3, .invokestatic 69, [121, 3, 1]), (6, .ifCond .ne 5, [11]), (9, .iconst (-1), []), (10, .ireturn, [])]),
  (11, [true, true, false, false, false, false, false, false], [(11, .aload_n 0, []), (12, .getfield 7, [12, 0, 2]), (15, .bipush 8, []), (17, .iaload, []), (18, .istore_n 2, []), (19, .iload_n 1, []), (20, .iconst 1, []), (21, .if_icmp .ne 40, [61]), (24, .iconst 0, []), (25, .istore_n 3, []), (26, .lconst 1, []), (27, .lstore 4, []), (29, .nop, [29])]),
  (29, [true, false, true, true, true, false, false, false], [(29, .lload 4, []), (31, .iload_n 2, []), (32, .i2l, []), (33, .lcmp, []), (34, .ifCond .ge 21, [55]), (37, .iinc 3 1, []), (40, .lload 4, []), (42, .aload_n 0, []), (43, .getfield 7, [12, 0, 2]), (46, .iconst 4, []), (47, .iaload, []), (48, .i2l, []), (49, .lmul, []), (50, .lstore 4, []), (52, .goto (-23), [29])]),
  (55, [false, false, true, true, false, false, false, false], [(55, .iload_n 2, []), (56, .iload_n 3, []), (57, .iconst 1, []), (58, .iadd, []), (59, .imul, []), (60, .ireturn, [])]),
  (61, [true, false, true, false, false, false, false, false], [(61, .aload_n 0, []), (62, .aload_n 0, []), (63, .getfield 7, [12, 0, 2]), (66, .iconst 0, []), (67, .iaload, []), (68, .invokevirtual 250, [162, 1, 0]), (71, .iconst 0, []), (72, .istore_n 3, []), (73, .iconst 0, []), (74, .istore 4, []), (76, .nop, [76])]),
  (76, [true, false, true, true, true, false, false, false], [(76, .iload 4, []), (78, .iload_n 2, []), (79, .if_icmp .ge 120, [199]), (82, .aload_n 0, []), (83, .iconst 0, []), (84, .aload_n 0, []), (85, .iconst 0, []), (86, .iload 4, []), (88, .invokevirtual 269, [171, 2, 1]), (91, .aload_n 0, []), (92, .getfield 34, [12, 17, 2]), (95, .iconst 0, []), (96, .aaload, []), (97, .iload 4, []), (99, .iaload, []), (100, .invokevirtual 256, [164, 3, 1]), (103, .istore 5, []), (105, .iload 5, []), (107, .aload_n 0, []), (108, .getfield 7, [12, 0, 2]), (111, .iconst 0, []), (112, .iaload, []), (113, .isub, []), (114, .ifCond .ge 7, [121]), (117, .iconst 0, []), (118, .goto 12, [130])]),
  (121, [true, false, true, true, true, true, false, false], [(121, .iload 5, []), (123, .aload_n 0, []), (124, .getfield 7, [12, 0, 2]), (127, .iconst 0, []), (128, .iaload, []), (129, .isub, []), (130, .nop, [130])]),
  (130, [true, false, true, true, true, true, false, false], [(130, .istore 6, []), (132, .iload 5, []), (134, .aload_n 0, []), (135, .getfield 7, [12, 0, 2]), (138, .iconst 0, []), (139, .iaload, []), (140, .iadd, []), (141, .iload_n 2, []), (142, .iconst 1, []), (143, .isub, []), (144, .if_icmp .le 9, [153]), (147, .iload_n 2, []), (148, .iconst 1, []), (149, .isub, []), (150, .goto 12, [162])]),
  (153, [true, false, true, true, true, true, true, false], [(153, .iload 5, []), (155, .aload_n 0, []), (156, .getfield 7, [12, 0, 2]), (159, .iconst 0, []), (160, .iaload, []), (161, .iadd, []), (162, .nop, [162])]),
  (162, [true, false, true, true, true, false, true, false], [(162, .istore 7, []), (164, .iload_n 3, []), (165, .iload 7, []), (167, .aload_n 0, []), (168, .getfield 7, [12, 0, 2]), (171, .iconst 3, []), (172, .iaload, []), (173, .idiv, []), (174, .iload 6, []), (176, .aload_n 0, []), (177, .getfield 7, [12, 0, 2]), (180, .iconst 3, []), (181, .iaload, []), (182, .idiv, []), (183, .isub, []), (184, .iconst 1, []), (185, .iadd, []), (186, .aload_n 0, []), (187, .getfield 233, [12, 25, 0]), (190, .iadd, []), (191, .iadd, []), (192, .istore_n 3, []), (193, .iinc 4 1, []), (196, .goto (-120), [76])]),
  (199, [false, false, false, true, false, false, false, false], [(199, .iload_n 3, []), (200, .ireturn, [])])]
def zv_b173 : List (Nat × List Bool × List zv_I) := [
  (0, [true, true, true, false, false, false, false, false], [(0, .aload_n 0, []), (1, .aload_n 0, []), (2, .getfield 7, [12, 0, 2]), (5, .iconst 0, []), (6, .iaload, []), (7, .invokevirtual 250, [162, 1, 0]), (10, .iload_n 1, []), (11, .iconst 0, []), (12, .aload_n 0, []), (13, .getfield 233, [12, 25, 0]), (16, .iconst 1, []), (17, .isub, []), (18, .invokestatic 69, [121, 3, 1]), (21, .ifCond .eq 12, [33]), (24, .iload_n 2, []), (25, .iconst 0, []), (26, .iconst 2, []), (27, .invokestatic 69, [121, 3, 1]), (30, .ifCond .ne 5, [35]), (33, .nop, [33])]),
  (33, [false, false, false, false, false, false, false, false], [(33, .iconst (-1), []), (34, .ireturn, [])]),
  (35, [true, true, true, false, false, false, false, false], [(35, .iconst 0, []), (36, .istore_n 3, []), (37, .iconst (-1), []), (38, .istore 4, []), (40, .iconst 0, []), (41, .istore 5, []), (43, .iconst 0, []), (44, .istore 6, []), (46, .nop, [46])]),
  (46, [true, true, true, true, true, true, true, false], [(46, .iload 6, []), (48, .aload_n 0, []), (49, .getfield 51, [12, 22, 2]), (52, .iload_n 1, []), (53, .iaload, []), (54, .if_icmp .ge 73, [127]), (57, .aload_n 0, []), (58, .iload_n 1, []), (59, .aload_n 0, []), (60, .iload_n 1, []), (61, .iload 6, []), (63, .invokevirtual 269, [171, 2, 1]), (66, .aload_n 0, []), (67, .getfield 34, [12, 17, 2]), (70, .iload_n 1, []), (71, .aaload, []), (72, .iload 6, []), (74, .iaload, []), (75, .invokevirtual 256, [164, 3, 1]), (78, .iload 6, []), (80, .isub, []), (81, .istore 7, []), (83, .iload 7, []), (85, .ifCond .ge 9, [94]), (88, .iload 7, []), (90, .ineg, []), (91, .goto 5, [96])]),
  (94, [true, true, true, true, true, true, true, true], [(94, .iload 7, []), (96, .nop, [96])]),
  (96, [true, true, true, true, true, true, true, false], [(96, .istore 7, []), (98, .iload_n 3, []), (99, .iload 7, []), (101, .iadd, []), (102, .istore_n 3, []), (103, .iload 7, []), (105, .iload 4, []), (107, .if_icmp .gt 6, [113]), (110, .goto 11, [121])]),
  (113, [true, true, true, true, false, false, true, true], [(113, .iload 7, []), (115, .istore 4, []), (117, .iload 6, []), (119, .istore 5, []), (121, .nop, [121])]),
  (121, [true, true, true, true, true, true, true, false], [(121, .iinc 6 1, []), (124, .goto (-78), [46])]),
  (127, [false, false, true, true, true, true, false, false], [(127, .iload_n 2, []), (128, .ifCond .ne 8, [136]), (131, .iload 4, []), (133, .goto 14, [147])]),
  (136, [false, false, true, true, false, true, false, false], [(136, .iload_n 2, []), (137, .iconst 1, []), (138, .if_icmp .ne 7, [145]), (141, .iload_n 3, []), (142, .goto 5, [147])]),
  (145, [false, false, false, false, false, true, false, false], [(145, .iload 5, []), (147, .nop, [147])]),
  (147, [false, false, false, false, false, false, false, false], [(147, .ireturn, [])])]
def zv_b174 : List (Nat × List Bool × List zv_I) := [
  (0, [true, true, false, false, false, false, false], [(0, .iload_n 1, []), (1, .iconst 0, []), (2, .iconst 1, []), (3, .invokestatic 69, [121, 3, 1]), (6, .ifCond .ne 5, [11]), (9, .iconst (-1), []), (10, .ireturn, [])]),
  (11, [true, true, false, false, false, false, false], [(11, .aload_n 0, []), (12, .getfield 7, [12, 0, 2]), (15, .bipush 8, []), (17, .iaload, []), (18, .ifCond .ne 5, [23]), (21, .iconst 0, []), (22, .ireturn, [])]),
  (23, [true, true, false, false, false, false, false], [(23, .iconst (-1), []), (24, .istore_n 2, []), (25, .iconst 0, []), (26, .istore_n 3, []), (27, .iconst 0, []), (28, .istore 4, []), (30, .nop, [30])]),
  (30, [true, true, true, true, true, false, false], [(30, .iload 4, []), (32, .bipush 20, []), (34, .if_icmp .gt 113, [147]), (37, .aload_n 0, []), (38, .iload 4, []), (40, .invokevirtual 250, [162, 1, 0]), (43, .iconst 0, []), (44, .istore 5, []), (46, .iconst 0, []), (47, .istore 6, []), (49, .nop, [49])]),
  (49, [true, true, true, true, true, true, true], [(49, .iload 6, []), (51, .aload_n 0, []), (52, .getfield 233, [12, 25, 0]), (55, .if_icmp .ge 21, [76]), (58, .iload 5, []), (60, .aload_n 0, []), (61, .getfield 54, [12, 23, 2]), (64, .iload 6, []), (66, .iaload, []), (67, .iadd, []), (68, .istore 5, []), (70, .iinc 6 1, []), (73, .goto (-24), [49])]),
  (76, [true, true, true, true, true, true, false], [(76, .iconst 0, []), (77, .istore 6, []), (79, .nop, [79])]),
  (79, [true, true, true, true, true, true, true], [(79, .iload 6, []), (81, .aload_n 0, []), (82, .getfield 7, [12, 0, 2]), (85, .bipush 8, []), (87, .iaload, []), (88, .if_icmp .ge 33, [121]), (91, .aload_n 0, []), (92, .aload_n 0, []), (93, .getfield 7, [12, 0, 2]), (96, .bipush 20, []), (98, .iload 6, []), (100, .iadd, []), (101, .iaload, []), (102, .invokevirtual 266, [169, 1, 1]), (105, .pop, []), (106, .iload 5, []), (108, .aload_n 0, []), (109, .getfield 259, [12, 30, 0]), (112, .iadd, []), (113, .istore 5, []), (115, .iinc 6 1, []), (118, .goto (-39), [79])]),
  (121, [true, true, true, true, true, true, false], [(121, .iload_n 2, []), (122, .iconst (-1), []), (123, .if_icmp .eq 12, [135]), (126, .iload 5, []), (128, .iload_n 3, []), (129, .if_icmp .lt 6, [135]), (132, .goto 9, [141])]),
  (135, [true, true, false, false, true, true, false], [(135, .iload 4, []), (137, .istore_n 2, []), (138, .iload 5, []), (140, .istore_n 3, []), (141, .nop, [141])]),
  (141, [true, true, true, true, true, false, false], [(141, .iinc 4 1, []), (144, .goto (-114), [30])]),
  (147, [false, true, true, true, false, false, false], [(147, .iload_n 1, []), (148, .ifCond .ne 7, [155]), (151, .iload_n 2, []), (152, .goto 4, [156])]),
  (155, [false, false, false, true, false, false, false], [(155, .iload_n 3, []), (156, .nop, [156])]),
  (156, [false, false, false, false, false, false, false], [(156, .ireturn, [])])]
def zv_b175 : List (Nat × List Bool × List zv_I) := [
  (0, [true, false, false], [(0, .aload_n 0, []), (1, .invokevirtual 85, [129, 0, 1]), (4, .istore_n 1, []), (5, .iload_n 1, []), (6, .bipush 48, []), (8, .if_icmp .le 8, [16]), (11, .bipush 48, []), (13, .goto 4, [17])]),
  (16, [true, true, false], [(16, .iload_n 1, []), (17, .nop, [17])]),
  (17, [true, false, false], [(17, .istore_n 1, []), (18, .iconst 0, []), (19, .istore_n 2, []), (20, .nop, [20])]),
  (20, [true, true, true], [(20, .iload_n 2, []), (21, .bipush 64, []), (23, .if_icmp .ge 20, [43]), (26, .aload_n 0, []), (27, .getfield 7, [12, 0, 2]), (30, .sipush 1604, []), (33, .iload_n 2, []), (34, .iadd, []), (35, .iconst 0, []), (36, .iastore, []), (37, .iinc 2 1, []), (40, .goto (-20), [20])]),
  (43, [true, true, false], [(43, .iconst 0, []), (44, .istore_n 2, []), (45, .nop, [45])]),
  (45, [true, true, true], [(45, .iload_n 2, []), (46, .iload_n 1, []), (47, .if_icmp .ge 25, [72]), (50, .aload_n 0, []), (51, .bipush 64, []), (53, .iload_n 2, []), (54, .imul, []), (55, .iload_n 1, []), (56, .idiv, []), (57, .aload_n 0, []), (58, .getfield 19, [12, 4, 2]), (61, .iload_n 2, []), (62, .iaload, []), (63, .invokevirtual 273, [176, 2, 0]), (66, .iinc 2 1, []), (69, .goto (-24), [45])]),
  (72, [false, true, false], [(72, .iload_n 1, []), (73, .ireturn, [])])]
def zv_b176 : List (Nat × List Bool × List zv_I) := [
  (0, [true, true, true], [(0, .aload_n 0, []), (1, .getfield 7, [12, 0, 2]), (4, .sipush 1540, []), (7, .iload_n 1, []), (8, .iadd, []), (9, .iload_n 2, []), (10, .iastore, []), (11, .aload_n 0, []), (12, .getfield 7, [12, 0, 2]), (15, .sipush 1604, []), (18, .iload_n 1, []), (19, .iadd, []), (20, .iconst 1, []), (21, .iastore, []), (22, .return_, [])])]
def zv_b177 : List (Nat × List Bool × List zv_I) := [
  (0, [true, true], [(0, .aload_n 0, []), (1, .getfield 7, [12, 0, 2]), (4, .sipush 1604, []), (7, .iload_n 1, []), (8, .iadd, []), (9, .iaload, []), (10, .iconst 1, []), (11, .if_icmp .ne 7, [18]), (14, .iconst 1, []), (15, .goto 4, [19])]),
  (18, [false, false], [(18, .iconst 0, []), (19, .nop, [19])]),
  (19, [false, false], [(19, .ireturn, [])])]
def zv_b178 : List (Nat × List Bool × List zv_I) := [
  (0, [true, true, false, false, false, false, false, false, false, false], [(0, .iload_n 1, []), (1, .invokestatic 102, [122, 1, 1]), (4, .ifCond .ne 5, [9]), (7, .iconst (-1), []), (8, .ireturn, [])]),
  (9, [true, true, false, false, false, false, false, false, false, false], [(9, .iconst (-1), []), (10, .istore_n 2, []), (11, .bipush 64, []), (13, .istore_n 3, []), (14, .iconst 0, []), (15, .istore 4, []), (17, .iconst 0, []), (18, .istore 5, []), (20, .nop, [20])]),
  (20, [true, true, true, true, true, true, false, false, false, false], [(20, .iload 5, []), (22, .bipush 64, []), (24, .if_icmp .ge 71, [95]), (27, .aload_n 0, []), (28, .iload 5, []), (30, .invokevirtual 276, [177, 1, 1]), (33, .ifCond .ne 6, [39]), (36, .goto 53, [89])]),
  (39, [true, true, true, true, true, true, false, false, false, false], [(39, .iinc 4 1, []), (42, .aload_n 0, []), (43, .getfield 7, [12, 0, 2]), (46, .sipush 1540, []), (49, .iload 5, []), (51, .iadd, []), (52, .iaload, []), (53, .iload_n 1, []), (54, .if_icmp .ne 5, [59]), (57, .iconst (-1), []), (58, .ireturn, [])]),
  (59, [true, true, true, true, true, true, false, false, false, false], [(59, .aload_n 0, []), (60, .getfield 7, [12, 0, 2]), (63, .sipush 1540, []), (66, .iload 5, []), (68, .iadd, []), (69, .iaload, []), (70, .iload_n 1, []), (71, .if_icmp .ge 9, [80]), (74, .iload 5, []), (76, .istore_n 2, []), (77, .goto 12, [89])]),
  (80, [true, true, true, true, true, true, false, false, false, false], [(80, .iload_n 3, []), (81, .bipush 64, []), (83, .if_icmp .ne 6, [89]), (86, .iload 5, []), (88, .istore_n 3, []), (89, .nop, [89])]),
  (89, [true, true, true, true, true, true, false, false, false, false], [(89, .iinc 5 1, []), (92, .goto (-72), [20])]),
  (95, [true, true, true, true, true, false, false, false, false, false], [(95, .iload 4, []), (97, .bipush 64, []), (99, .if_icmp .ne 5, [104]), (102, .iconst (-1), []), (103, .ireturn, [])]),
  (104, [true, true, true, true, false, false, false, false, false, false], [(104, .iload_n 3, []), (105, .iload_n 2, []), (106, .isub, []), (107, .iconst 1, []), (108, .if_icmp .le 25, [133]), (111, .aload_n 0, []), (112, .iload_n 2, []), (113, .iload_n 3, []), (114, .iadd, []), (115, .ifCond .ge 7, [122]), (118, .iconst 0, []), (119, .goto 8, [127])]),
  (122, [false, true, true, true, false, false, false, false, false, false], [(122, .iload_n 2, []), (123, .iload_n 3, []), (124, .iadd, []), (125, .iconst 2, []), (126, .idiv, []), (127, .nop, [127])]),
  (127, [false, true, false, false, false, false, false, false, false, false], [(127, .iload_n 1, []), (128, .invokevirtual 273, [176, 2, 0]), (131, .iconst 0, []), (132, .ireturn, [])]),
  (133, [true, true, true, true, false, false, false, false, false, false], [(133, .iload_n 2, []), (134, .istore 5, []), (136, .nop, [136])]),
  (136, [true, true, true, true, false, true, false, false, false, false], [(136, .iload 5, []), (138, .ifCond .lt 18, [156]), (141, .aload_n 0, []), (142, .iload 5, []), (144, .invokevirtual 276, [177, 1, 1]), (147, .ifCond .eq 9, [156]), (150, .iinc 5 (-1), []), (153, .goto (-17), [136])]),
  (156, [true, true, true, true, false, true, false, false, false, false], [(156, .iload_n 3, []), (157, .istore 6, []), (159, .nop, [159])]),
  (159, [true, true, true, true, false, true, true, false, false, false], [(159, .iload 6, []), (161, .bipush 64, []), (163, .if_icmp .ge 18, [181]), (166, .aload_n 0, []), (167, .iload 6, []), (169, .invokevirtual 276, [177, 1, 1]), (172, .ifCond .eq 9, [181]), (175, .iinc 6 1, []), (178, .goto (-19), [159])]),
  (181, [true, true, true, true, false, true, true, false, false, false], [(181, .iload 5, []), (183, .ifCond .lt 25, [208]), (186, .iload 6, []), (188, .bipush 64, []), (190, .if_icmp .eq 14, [204]), (193, .iload_n 2, []), (194, .iload 5, []), (196, .isub, []), (197, .iload 6, []), (199, .iload_n 3, []), (200, .isub, []), (201, .if_icmp .gt 7, [208]), (204, .nop, [204])]),
  (204, [true, true, true, true, false, true, true, false, false, false], [(204, .iconst 1, []), (205, .goto 4, [209])]),
  (208, [true, true, true, true, false, true, true, false, false, false], [(208, .iconst 0, []), (209, .nop, [209])]),
  (209, [true, true, true, true, false, true, true, false, false, false], [(209, .istore 7, []), (211, .iload 7, []), (213, .ifCond .eq 10, [223]), (216, .iload_n 2, []), (217, .iload 5, []), (219, .isub, []), (220, .goto 7, [227])]),
  (223, [true, true, true, true, false, true, true, true, false, false], [(223, .iload 6, []), (225, .iload_n 3, []), (226, .isub, []), (227, .nop, [227])]),
  (227, [true, true, true, true, false, true, true, true, false, false], [(227, .istore 8, []), (229, .iconst 0, []), (230, .istore 9, []), (232, .nop, [232])]),
  (232, [true, true, true, true, false, true, true, true, true, true], [(232, .iload 9, []), (234, .iload 8, []), (236, .if_icmp .ge 62, [298]), (239, .aload_n 0, []), (240, .iload 7, []), (242, .ifCond .eq 11, [253]), (245, .iload 5, []), (247, .iload 9, []), (249, .iadd, []), (250, .goto 8, [258])]),
  (253, [true, true, true, true, false, true, true, true, true, true], [(253, .iload 6, []), (255, .iload 9, []), (257, .isub, []), (258, .nop, [258])]),
  (258, [true, true, true, true, false, true, true, true, true, true], [(258, .aload_n 0, []), (259, .getfield 7, [12, 0, 2]), (262, .sipush 1540, []), (265, .iload 7, []), (267, .ifCond .eq 13, [280]), (270, .iload 5, []), (272, .iload 9, []), (274, .iadd, []), (275, .iconst 1, []), (276, .iadd, []), (277, .goto 10, [287])]),
  (280, [true, true, true, true, false, true, true, true, true, true], [(280, .iload 6, []), (282, .iload 9, []), (284, .isub, []), (285, .iconst 1, []), (286, .isub, []), (287, .nop, [287])]),
  (287, [true, true, true, true, false, true, true, true, true, true], [(287, .iadd, []), (288, .iaload, []), (289, .invokevirtual 273, [176, 2, 0]), (292, .iinc 9 1, []), (295, .goto (-63), [232])]),
  (298, [true, true, true, true, false, false, false, true, true, false], [(298, .aload_n 0, []), (299, .iload 7, []), (301, .ifCond .eq 7, [308]), (304, .iload_n 2, []), (305, .goto 4, [309])]),
  (308, [false, true, false, true, false, false, false, false, true, false], [(308, .iload_n 3, []), (309, .nop, [309])]),
  (309, [false, true, false, false, false, false, false, false, true, false], [(309, .iload_n 1, []), (310, .invokevirtual 273, [176, 2, 0]), (313, .iload 8, []), (315, .ireturn, [])])]
def zv_b179 : List (Nat × List Bool × List zv_I) := [
  (0, [true, true], [(0, .iload_n 1, []), (1, .iconst 0, []), (2, .bipush 63, []), (4, .invokestatic 69, [121, 3, 1]), (7, .ifCond .eq 24, [31]), (10, .aload_n 0, []), (11, .iload_n 1, []), (12, .invokevirtual 276, [177, 1, 1]), (15, .ifCond .eq 16, [31]), (18, .aload_n 0, []), (19, .getfield 7, [12, 0, 2]), (22, .sipush 1540, []), (25, .iload_n 1, []), (26, .iadd, []), (27, .iaload, []), (28, .goto 5, [33])]),
  (31, [false, false], [(31, .ldc 120, [0, 3294967295]), (33, .nop, [33])]),
  (33, [false, false], [(33, .ireturn, [])])]
def zv_b180 : List (Nat × List Bool × List zv_I) := [
  (0, [true, true, true, true, false, false, false], [(0, .iconst 0, []), (1, .istore 4, []), (3, .iload_n 3, []), (4, .ifCond .ne 7, [11]), (7, .iconst 1, []), (8, .goto 4, [12])]),
  (11, [true, true, true, false, true, false, false], [(11, .iconst 0, []), (12, .nop, [12])]),
  (12, [true, true, true, false, true, false, false], [(12, .istore 5, []), (14, .iconst 0, []), (15, .istore 6, []), (17, .nop, [17])]),
  (17, [true, true, true, false, true, true, true], [(17, .iload 6, []), (19, .iload_n 1, []), (20, .if_icmp .ge 60, [80]), (23, .iload 5, []), (25, .ifCond .ne 30, [55]), (28, .iload_n 2, []), (29, .aload_n 0, []), (30, .getfield 19, [12, 4, 2]), (33, .iload 6, []), (35, .iaload, []), (36, .if_icmp .ge 19, [55]), (39, .aload_n 0, []), (40, .getfield 34, [12, 17, 2]), (43, .iconst 0, []), (44, .aaload, []), (45, .iload 4, []), (47, .iload_n 2, []), (48, .iastore, []), (49, .iinc 4 1, []), (52, .iconst 1, []), (53, .istore 5, []), (55, .nop, [55])]),
  (55, [true, true, true, false, true, true, true], [(55, .aload_n 0, []), (56, .getfield 34, [12, 17, 2]), (59, .iconst 0, []), (60, .aaload, []), (61, .iload 4, []), (63, .aload_n 0, []), (64, .getfield 19, [12, 4, 2]), (67, .iload 6, []), (69, .iaload, []), (70, .iastore, []), (71, .iinc 4 1, []), (74, .iinc 6 1, []), (77, .goto (-60), [17])]),
  (80, [true, false, true, false, true, true, false], [(80, .iload 5, []), (82, .ifCond .ne 16, [98]), (85, .aload_n 0, []), (86, .getfield 34, [12, 17, 2]), (89, .iconst 0, []), (90, .aaload, []), (91, .iload 4, []), (93, .iload_n 2, []), (94, .iastore, []), (95, .iinc 4 1, []), (98, .nop, [98])]),
  (98, [true, false, false, false, true, false, false], [(98, .aload_n 0, []), (99, .getfield 51, [12, 22, 2]), (102, .iconst 0, []), (103, .iload 4, []), (105, .iastore, []), (106, .aload_n 0, []), (107, .getfield 57, [12, 24, 2]), (110, .iconst 0, []), (111, .aload_n 0, []), (112, .getfield 7, [12, 0, 2]), (115, .iconst 0, []), (116, .iaload, []), (117, .iastore, []), (118, .aload_n 0, []), (119, .iconst 0, []), (120, .invokevirtual 236, [160, 1, 0]), (123, .aload_n 0, []), (124, .getfield 54, [12, 23, 2]), (127, .iconst 0, []), (128, .iaload, []), (129, .ireturn, [])])]
def zv_b181 : List (Nat × List Bool × List zv_I) := [
  (0, [true, true, false, false, false, false, false, false, false], [(0, .iload_n 1, []), (1, .iconst 0, []), (2, .iconst 1, []), (3, .invokestatic 69, [121, 3, 1]), (6, .ifCond .ne 5, [11]), (9, .iconst (-1), []), (10, .ireturn, [])]),
  (11, [true, true, false, false, false, false, false, false, false], [(11, .aload_n 0, []), (12, .invokevirtual 85, [129, 0, 1]), (15, .istore_n 2, []), (16, .ldc 120, [0, 3294967295]), (18, .istore_n 3, []), (19, .iconst (-1), []), (20, .istore 4, []), (22, .iconst 0, []), (23, .istore 5, []), (25, .nop, [25])]),
  (25, [true, true, true, true, true, true, false, false, false], [(25, .iload 5, []), (27, .iload_n 2, []), (28, .if_icmp .ge 96, [124]), (31, .iconst (-1), []), (32, .istore 6, []), (34, .nop, [34])]),
  (34, [true, true, true, true, true, true, true, false, false], [(34, .iload 6, []), (36, .iconst 2, []), (37, .if_icmp .ge 81, [118]), (40, .aload_n 0, []), (41, .getfield 19, [12, 4, 2]), (44, .iload 5, []), (46, .iaload, []), (47, .iload 6, []), (49, .iadd, []), (50, .istore 7, []), (52, .iload 7, []), (54, .invokestatic 102, [122, 1, 1]), (57, .ifCond .eq 55, [112]), (60, .aload_n 0, []), (61, .iload 7, []), (63, .invokevirtual 106, [125, 1, 1]), (66, .ifCond .le 6, [72]), (69, .goto 43, [112])]),
  (72, [true, true, true, true, true, true, true, true, false], [(72, .aload_n 0, []), (73, .iload_n 2, []), (74, .iload 7, []), (76, .iconst 1, []), (77, .invokevirtual 279, [180, 3, 1]), (80, .istore 8, []), (82, .iload 8, []), (84, .iload 4, []), (86, .if_icmp .lt 26, [112]), (89, .iload 8, []), (91, .iload 4, []), (93, .if_icmp .ne 12, [105]), (96, .iload 7, []), (98, .iload_n 3, []), (99, .if_icmp .lt 6, [105]), (102, .goto 10, [112])]),
  (105, [true, true, true, false, false, true, true, true, true], [(105, .iload 8, []), (107, .istore 4, []), (109, .iload 7, []), (111, .istore_n 3, []), (112, .nop, [112])]),
  (112, [true, true, true, true, true, true, true, false, false], [(112, .iinc 6 2, []), (115, .goto (-81), [34])]),
  (118, [true, true, true, true, true, true, false, false, false], [(118, .iinc 5 1, []), (121, .goto (-96), [25])]),
  (124, [true, true, true, true, true, false, false, false, false], [(124, .iload_n 1, []), (125, .ifCond .ne 7, [132]), (128, .iload_n 3, []), (129, .goto 21, [150])]),
  (132, [true, false, true, true, true, false, false, false, false], [(132, .iload_n 3, []), (133, .ldc 120, [0, 3294967295]), (135, .if_icmp .ne 13, [148]), (138, .aload_n 0, []), (139, .iload_n 2, []), (140, .iconst 0, []), (141, .iconst 0, []), (142, .invokevirtual 279, [180, 3, 1]), (145, .goto 5, [150])]),
  (148, [false, false, false, false, true, false, false, false, false], [(148, .iload 4, []), (150, .nop, [150])]),
  (150, [false, false, false, false, false, false, false, false, false], [(150, .ireturn, [])])]
def zv_b182 : List (Nat × List Bool × List zv_I) := [
  (0, [true, true, true, false, false], [(0, .iload_n 1, []), (1, .i2l, []), (2, .ldc2_w 283, [1000000000]), (5, .ladd, []), (6, .ldc2_w 285, [40503]), (9, .ldc2_w 224, [2]), (12, .iload_n 2, []), (13, .i2l, []), (14, .lmul, []), (15, .ladd, []), (16, .lmul, []), (17, .ldc2_w 287, [977]), (20, .iload_n 2, []), (21, .i2l, []), (22, .lmul, []), (23, .ladd, []), (24, .lstore_n 3, []), (25, .lload_n 3, []), (26, .ldc2_w 289, [2147483647]), (29, .lrem, []), (30, .aload_n 0, []), (31, .getfield 7, [12, 0, 2]), (34, .iconst 5, []), (35, .iaload, []), (36, .i2l, []), (37, .lrem, []), (38, .l2i, []), (39, .ireturn, [])])]
def zv_b183 : List (Nat × List Bool × List zv_I) := [
  (0, [true, true, true, false, false, false, false], [(0, .iconst 0, []), (1, .istore_n 3, []), (2, .nop, [2])]),
  (2, [true, true, true, true, false, false, false], [(2, .iload_n 3, []), (3, .sipush 512, []), (6, .if_icmp .ge 16, [22]), (9, .aload_n 0, []), (10, .getfield 60, [12, 31, 2]), (13, .iload_n 3, []), (14, .iconst 0, []), (15, .bastore, [3]), (16, .iinc 3 1, []), (19, .goto (-17), [2])]),
  (22, [true, true, true, false, false, false, false], [(22, .iconst 0, []), (23, .istore_n 3, []), (24, .nop, [24])]),
  (24, [true, true, true, true, false, false, false], [(24, .iload_n 3, []), (25, .iload_n 1, []), (26, .if_icmp .ge 160, [186]), (29, .iload_n 3, []), (30, .ifCond .le 32, [62]), (33, .aload_n 0, []), (34, .getfield 19, [12, 4, 2]), (37, .iload_n 3, []), (38, .iaload, []), (39, .aload_n 0, []), (40, .getfield 19, [12, 4, 2]), (43, .iload_n 3, []), (44, .iconst 1, []), (45, .isub, []), (46, .iaload, []), (47, .isub, []), (48, .aload_n 0, []), (49, .getfield 7, [12, 0, 2]), (52, .bipush 7, []), (54, .iaload, []), (55, .if_icmp .gt 7, [62]), (58, .iconst 1, []), (59, .goto 4, [63])]),
  (62, [true, true, true, true, false, false, false], [(62, .iconst 0, []), (63, .nop, [63])]),
  (63, [true, true, true, true, false, false, false], [(63, .istore 4, []), (65, .iload_n 3, []), (66, .iconst 1, []), (67, .iadd, []), (68, .iload_n 1, []), (69, .if_icmp .ge 32, [101]), (72, .aload_n 0, []), (73, .getfield 19, [12, 4, 2]), (76, .iload_n 3, []), (77, .iconst 1, []), (78, .iadd, []), (79, .iaload, []), (80, .aload_n 0, []), (81, .getfield 19, [12, 4, 2]), (84, .iload_n 3, []), (85, .iaload, []), (86, .isub, []), (87, .aload_n 0, []), (88, .getfield 7, [12, 0, 2]), (91, .bipush 7, []), (93, .iaload, []), (94, .if_icmp .gt 7, [101]), (97, .iconst 1, []), (98, .goto 4, [102])]),
  (101, [true, true, true, true, true, false, false], [(101, .iconst 0, []), (102, .nop, [102])]),
  (102, [true, true, true, true, true, false, false], [(102, .istore 5, []), (104, .aload_n 0, []), (105, .getfield 64, [12, 32, 2]), (108, .iload_n 3, []), (109, .iload 4, []), (111, .ifCond .ne 12, [123]), (114, .iload 5, []), (116, .ifCond .ne 7, [123]), (119, .iconst 1, []), (120, .goto 4, [124])]),
  (123, [true, true, true, true, false, false, false], [(123, .iconst 0, []), (124, .nop, [124])]),
  (124, [true, true, true, true, false, false, false], [(124, .bastore, [3]), (125, .iload_n 2, []), (126, .ifCond .eq 15, [141]), (129, .aload_n 0, []), (130, .getfield 64, [12, 32, 2]), (133, .iload_n 3, []), (134, .baload, [3]), (135, .ifCond .ne 6, [141]), (138, .goto 42, [180])]),
  (141, [true, true, true, true, false, false, false], [(141, .iconst 0, []), (142, .istore 6, []), (144, .nop, [144])]),
  (144, [true, true, true, true, false, false, true], [(144, .iload 6, []), (146, .aload_n 0, []), (147, .getfield 7, [12, 0, 2]), (150, .bipush 6, []), (152, .iaload, []), (153, .if_icmp .ge 27, [180]), (156, .aload_n 0, []), (157, .getfield 60, [12, 31, 2]), (160, .aload_n 0, []), (161, .aload_n 0, []), (162, .getfield 19, [12, 4, 2]), (165, .iload_n 3, []), (166, .iaload, []), (167, .iload 6, []), (169, .invokevirtual 291, [182, 2, 1]), (172, .iconst 1, []), (173, .bastore, [3]), (174, .iinc 6 1, []), (177, .goto (-33), [144])]),
  (180, [true, true, true, true, false, false, false], [(180, .iinc 3 1, []), (183, .goto (-159), [24])]),
  (186, [false, false, false, false, false, false, false], [(186, .return_, [])])]
def zv_b184 : List (Nat × List Bool × List zv_I) := [
  (0, [true, true, true, true, false], [(0, .iload_n 2, []), (1, .invokestatic 102, [122, 1, 1]), (4, .ifCond .ne 5, [9]), (7, .iconst 0, []), (8, .ireturn, [])]),
  (9, [true, true, true, true, false], [(9, .iload_n 3, []), (10, .ifCond .eq 100, [110]), (13, .iconst 0, []), (14, .istore 4, []), (16, .nop, [16])]),
  (16, [true, true, true, false, true], [(16, .iload 4, []), (18, .iload_n 1, []), (19, .if_icmp .ge 91, [110]), (22, .aload_n 0, []), (23, .getfield 19, [12, 4, 2]), (26, .iload 4, []), (28, .iaload, []), (29, .iload_n 2, []), (30, .if_icmp .ne 13, [43]), (33, .aload_n 0, []), (34, .getfield 64, [12, 32, 2]), (37, .iload 4, []), (39, .baload, [3]), (40, .ifCond .eq 62, [102]), (43, .nop, [43])]),
  (43, [true, true, true, false, true], [(43, .iload 4, []), (45, .iconst 1, []), (46, .iadd, []), (47, .iload_n 1, []), (48, .if_icmp .ge 56, [104]), (51, .aload_n 0, []), (52, .getfield 19, [12, 4, 2]), (55, .iload 4, []), (57, .iaload, []), (58, .iload_n 2, []), (59, .if_icmp .ge 45, [104]), (62, .iload_n 2, []), (63, .aload_n 0, []), (64, .getfield 19, [12, 4, 2]), (67, .iload 4, []), (69, .iconst 1, []), (70, .iadd, []), (71, .iaload, []), (72, .if_icmp .ge 32, [104]), (75, .aload_n 0, []), (76, .getfield 19, [12, 4, 2]), (79, .iload 4, []), (81, .iconst 1, []), (82, .iadd, []), (83, .iaload, []), (84, .aload_n 0, []), (85, .getfield 19, [12, 4, 2]), (88, .iload 4, []), (90, .iaload, []), (91, .isub, []), (92, .aload_n 0, []), (93, .getfield 7, [12, 0, 2]), (96, .bipush 7, []), (98, .iaload, []), (99, .if_icmp .gt 5, [104]), (102, .nop, [102])]),
  (102, [false, false, false, false, false], [(102, .iconst 1, []), (103, .ireturn, [])]),
  (104, [true, true, true, false, true], [(104, .iinc 4 1, []), (107, .goto (-91), [16])]),
  (110, [true, false, true, false, false], [(110, .iconst 0, []), (111, .istore 4, []), (113, .nop, [113])]),
  (113, [true, false, true, false, true], [(113, .iload 4, []), (115, .aload_n 0, []), (116, .getfield 7, [12, 0, 2]), (119, .bipush 6, []), (121, .iaload, []), (122, .if_icmp .ge 26, [148]), (125, .aload_n 0, []), (126, .getfield 60, [12, 31, 2]), (129, .aload_n 0, []), (130, .iload_n 2, []), (131, .iload 4, []), (133, .invokevirtual 291, [182, 2, 1]), (136, .baload, [3]), (137, .ifCond .ne 5, [142]), (140, .iconst 0, []), (141, .ireturn, [])]),
  (142, [true, false, true, false, true], [(142, .iinc 4 1, []), (145, .goto (-32), [113])]),
  (148, [false, false, false, false, false], [(148, .iconst 1, []), (149, .ireturn, [])])]
def zv_b185 : List (Nat × List Bool × List zv_I) := [
  (0, [true, true, true, false], [(0, .aload_n 0, []), (1, .invokevirtual 85, [129, 0, 1]), (4, .istore_n 3, []), (5, .aload_n 0, []), (6, .iload_n 3, []), (7, .iload_n 2, []), (8, .invokevirtual 294, [183, 2, 0]), (11, .aload_n 0, []), (12, .iload_n 3, []), (13, .iload_n 1, []), (14, .iload_n 2, []), (15, .invokevirtual 298, [184, 3, 1]), (18, .ireturn, [])])]
def zv_b186 : List (Nat × List Bool × List zv_I) := [
  (0, [true, true, true, true, false, false, false], [(0, .iload_n 2, []), (1, .iload_n 1, []), (2, .if_icmp .lt 15, [17]), (5, .iload_n 2, []), (6, .i2l, []), (7, .iload_n 1, []), (8, .i2l, []), (9, .lsub, []), (10, .ldc2_w 302, [4999]), (13, .lcmp, []), (14, .ifCond .le 5, [19]), (17, .nop, [17])]),
  (17, [false, false, false, false, false, false, false], [(17, .iconst (-1), []), (18, .ireturn, [])]),
  (19, [true, true, true, true, false, false, false], [(19, .aload_n 0, []), (20, .invokevirtual 85, [129, 0, 1]), (23, .istore 4, []), (25, .aload_n 0, []), (26, .iload 4, []), (28, .iload_n 3, []), (29, .invokevirtual 294, [183, 2, 0]), (32, .iconst 0, []), (33, .istore 5, []), (35, .iconst 0, []), (36, .istore 6, []), (38, .nop, [38])]),
  (38, [true, true, true, true, true, true, true], [(38, .iload 6, []), (40, .iload_n 2, []), (41, .iload_n 1, []), (42, .isub, []), (43, .if_icmp .gt 44, [87]), (46, .iload 5, []), (48, .aload_n 0, []), (49, .iload_n 1, []), (50, .iload 6, []), (52, .iadd, []), (53, .invokevirtual 106, [125, 1, 1]), (56, .ifCond .ne 21, [77]), (59, .aload_n 0, []), (60, .iload 4, []), (62, .iload_n 1, []), (63, .iload 6, []), (65, .iadd, []), (66, .iload_n 3, []), (67, .invokevirtual 298, [184, 3, 1]), (70, .ifCond .eq 7, [77]), (73, .iconst 1, []), (74, .goto 4, [78])]),
  (77, [true, true, true, true, true, false, true], [(77, .iconst 0, []), (78, .nop, [78])]),
  (78, [true, true, true, true, true, false, true], [(78, .iadd, []), (79, .istore 5, []), (81, .iinc 6 1, []), (84, .goto (-46), [38])]),
  (87, [false, false, false, false, false, true, false], [(87, .iload 5, []), (89, .ireturn, [])])]
def zv_b187 : List (Nat × List Bool × List zv_I) := [
  (0, [true, true, true], [(0, .iload_n 1, []), (1, .iconst 0, []), (2, .bipush 31, []), (4, .invokestatic 69, [121, 3, 1]), (7, .ifCond .eq 25, [32]), (10, .iload_n 2, []), (11, .iconst 0, []), (12, .bipush 31, []), (14, .invokestatic 69, [121, 3, 1]), (17, .ifCond .eq 15, [32]), (20, .aload_n 0, []), (21, .getfield 7, [12, 0, 2]), (24, .bipush 13, []), (26, .iaload, []), (27, .bipush 100, []), (29, .if_icmp .ne 5, [34]), (32, .nop, [32])]),
  (32, [false, false, false], [(32, .iconst (-1), []), (33, .ireturn, [])]),
  (34, [true, true, true], [(34, .aload_n 0, []), (35, .getfield 7, [12, 0, 2]), (38, .sipush 1300, []), (41, .iconst 2, []), (42, .aload_n 0, []), (43, .getfield 7, [12, 0, 2]), (46, .bipush 13, []), (48, .iaload, []), (49, .imul, []), (50, .iadd, []), (51, .iload_n 1, []), (52, .iastore, []), (53, .aload_n 0, []), (54, .getfield 7, [12, 0, 2]), (57, .sipush 1300, []), (60, .iconst 2, []), (61, .aload_n 0, []), (62, .getfield 7, [12, 0, 2]), (65, .bipush 13, []), (67, .iaload, []), (68, .imul, []), (69, .iadd, []), (70, .iconst 1, []), (71, .iadd, []), (72, .iload_n 2, []), (73, .iastore, []), (74, .aload_n 0, []), (75, .getfield 7, [12, 0, 2]), (78, .bipush 13, []), (80, .dup2, []), (81, .iaload, []), (82, .iconst 1, []), (83, .iadd, []), (84, .iastore, []), (85, .aload_n 0, []), (86, .getfield 7, [12, 0, 2]), (89, .bipush 13, []), (91, .iaload, []), (92, .iconst 1, []), (93, .isub, []), (94, .ireturn, [])])]
def zv_b188 : List (Nat × List Bool × List zv_I) := [
  (0, [true, true, true, true, true, false], [(0, .iload_n 1, []), (1, .iconst 0, []), (2, .iload_n 3, []), (3, .invokestatic 69, [121, 3, 1]), (6, .ifCond .eq 38, [44]), (9, .iload_n 2, []), (10, .iconst 0, []), (11, .iload 4, []), (13, .invokestatic 69, [121, 3, 1]), (16, .ifCond .eq 28, [44]), (19, .iload_n 3, []), (20, .bipush 31, []), (22, .if_icmp .gt 22, [44]), (25, .iload 4, []), (27, .bipush 31, []), (29, .if_icmp .gt 15, [44]), (32, .aload_n 0, []), (33, .getfield 7, [12, 0, 2]), (36, .bipush 14, []), (38, .iaload, []), (39, .bipush 8, []), (41, .if_icmp .ne 5, [46]), (44, .nop, [44])]),
  (44, [false, false, false, false, false, false], [(44, .iconst (-1), []), (45, .ireturn, [])]),
  (46, [true, true, true, true, true, false], [(46, .sipush 1500, []), (49, .iconst 4, []), (50, .aload_n 0, []), (51, .getfield 7, [12, 0, 2]), (54, .bipush 14, []), (56, .iaload, []), (57, .imul, []), (58, .iadd, []), (59, .istore 5, []), (61, .aload_n 0, []), (62, .getfield 7, [12, 0, 2]), (65, .iload 5, []), (67, .iload_n 1, []), (68, .iastore, []), (69, .aload_n 0, []), (70, .getfield 7, [12, 0, 2]), (73, .iload 5, []), (75, .iconst 1, []), (76, .iadd, []), (77, .iload_n 2, []), (78, .iastore, []), (79, .aload_n 0, []), (80, .getfield 7, [12, 0, 2]), (83, .iload 5, []), (85, .iconst 2, []), (86, .iadd, []), (87, .iload_n 3, []), (88, .iastore, []), (89, .aload_n 0, []), (90, .getfield 7, [12, 0, 2]), (93, .iload 5, []), (95, .iconst 3, []), (96, .iadd, []), (97, .iload 4, []), (99, .iastore, []), (100, .aload_n 0, []), (101, .getfield 7, [12, 0, 2]), (104, .bipush 14, []), (106, .dup2, []), (107, .iaload, []), (108, .iconst 1, []), (109, .iadd, []), (110, .iastore, []), (111, .aload_n 0, []), (112, .getfield 7, [12, 0, 2]), (115, .bipush 14, []), (117, .iaload, []), (118, .iconst 1, []), (119, .isub, []), (120, .ireturn, [])])]
def zv_b189 : List (Nat × List Bool × List zv_I) := [
  (0, [true, true, true, false, false], [(0, .iload_n 0, []), (1, .ifCond .ne 10, [11]), (4, .bipush 32, []), (6, .iload_n 2, []), (7, .imul, []), (8, .iload_n 1, []), (9, .iadd, []), (10, .ireturn, [])]),
  (11, [true, true, true, false, false], [(11, .iload_n 0, []), (12, .iconst 2, []), (13, .if_icmp .ne 24, [37]), (16, .bipush 32, []), (18, .iload_n 2, []), (19, .imul, []), (20, .iload_n 2, []), (21, .iconst 2, []), (22, .irem, []), (23, .iconst 1, []), (24, .if_icmp .ne 10, [34]), (27, .bipush 31, []), (29, .iload_n 1, []), (30, .isub, []), (31, .goto 4, [35])]),
  (34, [false, true, false, false, false], [(34, .iload_n 1, []), (35, .nop, [35])]),
  (35, [false, false, false, false, false], [(35, .iadd, []), (36, .ireturn, [])]),
  (37, [false, true, true, false, false], [(37, .iconst 0, []), (38, .istore_n 3, []), (39, .iconst 0, []), (40, .istore 4, []), (42, .nop, [42])]),
  (42, [false, true, true, true, true], [(42, .iload 4, []), (44, .iconst 5, []), (45, .if_icmp .ge 37, [82]), (48, .iload_n 3, []), (49, .iload_n 1, []), (50, .iload 4, []), (52, .ishr, []), (53, .iconst 1, []), (54, .iand, []), (55, .iconst 2, []), (56, .iload 4, []), (58, .imul, []), (59, .ishl, []), (60, .iload_n 2, []), (61, .iload 4, []), (63, .ishr, []), (64, .iconst 1, []), (65, .iand, []), (66, .iconst 2, []), (67, .iload 4, []), (69, .imul, []), (70, .iconst 1, []), (71, .iadd, []), (72, .ishl, []), (73, .ior, []), (74, .ior, []), (75, .istore_n 3, []), (76, .iinc 4 1, []), (79, .goto (-37), [42])]),
  (82, [false, false, false, true, false], [(82, .iload_n 3, []), (83, .ireturn, [])])]
def zv_b190 : List (Nat × List Bool × List zv_I) := [
  (0, [true, true, true, false, false, false, false, false, false], [(0, .sipush 1500, []), (3, .iconst 4, []), (4, .iload_n 1, []), (5, .imul, []), (6, .iadd, []), (7, .istore_n 3, []), (8, .sipush 2000, []), (11, .istore 4, []), (13, .iconst (-1), []), (14, .istore 5, []), (16, .aload_n 0, []), (17, .getfield 7, [12, 0, 2]), (20, .iload_n 3, []), (21, .iaload, []), (22, .istore 6, []), (24, .nop, [24])]),
  (24, [true, false, true, true, true, true, true, false, false], [(24, .iload 6, []), (26, .aload_n 0, []), (27, .getfield 7, [12, 0, 2]), (30, .iload_n 3, []), (31, .iconst 2, []), (32, .iadd, []), (33, .iaload, []), (34, .if_icmp .gt 80, [114]), (37, .aload_n 0, []), (38, .getfield 7, [12, 0, 2]), (41, .iload_n 3, []), (42, .iconst 1, []), (43, .iadd, []), (44, .iaload, []), (45, .istore 7, []), (47, .nop, [47])]),
  (47, [true, false, true, true, true, true, true, true, false], [(47, .iload 7, []), (49, .aload_n 0, []), (50, .getfield 7, [12, 0, 2]), (53, .iload_n 3, []), (54, .iconst 3, []), (55, .iadd, []), (56, .iaload, []), (57, .if_icmp .gt 51, [108]), (60, .iload_n 2, []), (61, .iload 6, []), (63, .iload 7, []), (65, .invokestatic 304, [189, 3, 1]), (68, .istore 8, []), (70, .iload 8, []), (72, .iload 4, []), (74, .if_icmp .ge 8, [82]), (77, .iload 8, []), (79, .goto 5, [84])]),
  (82, [true, false, true, true, true, true, true, true, true], [(82, .iload 4, []), (84, .nop, [84])]),
  (84, [true, false, true, true, false, true, true, true, true], [(84, .istore 4, []), (86, .iload 8, []), (88, .iload 5, []), (90, .if_icmp .le 8, [98]), (93, .iload 8, []), (95, .goto 5, [100])]),
  (98, [true, false, true, true, true, true, true, true, false], [(98, .iload 5, []), (100, .nop, [100])]),
  (100, [true, false, true, true, true, false, true, true, false], [(100, .istore 5, []), (102, .iinc 7 1, []), (105, .goto (-58), [47])]),
  (108, [true, false, true, true, true, true, true, false, false], [(108, .iinc 6 1, []), (111, .goto (-87), [24])]),
  (114, [true, false, true, false, true, true, false, false, false], [(114, .iconst 0, []), (115, .istore 6, []), (117, .iconst 0, []), (118, .istore 7, []), (120, .nop, [120])]),
  (120, [true, false, true, false, true, true, true, true, false], [(120, .iload 7, []), (122, .aload_n 0, []), (123, .getfield 7, [12, 0, 2]), (126, .bipush 13, []), (128, .iaload, []), (129, .if_icmp .ge 61, [190]), (132, .iload 6, []), (134, .iload_n 2, []), (135, .aload_n 0, []), (136, .getfield 7, [12, 0, 2]), (139, .sipush 1300, []), (142, .iconst 2, []), (143, .iload 7, []), (145, .imul, []), (146, .iadd, []), (147, .iaload, []), (148, .aload_n 0, []), (149, .getfield 7, [12, 0, 2]), (152, .sipush 1300, []), (155, .iconst 2, []), (156, .iload 7, []), (158, .imul, []), (159, .iadd, []), (160, .iconst 1, []), (161, .iadd, []), (162, .iaload, []), (163, .invokestatic 304, [189, 3, 1]), (166, .iload 4, []), (168, .iload 5, []), (170, .invokestatic 69, [121, 3, 1]), (173, .ifCond .eq 7, [180]), (176, .iconst 1, []), (177, .goto 4, [181])]),
  (180, [true, false, true, false, true, true, false, true, false], [(180, .iconst 0, []), (181, .nop, [181])]),
  (181, [true, false, true, false, true, true, false, true, false], [(181, .iadd, []), (182, .istore 6, []), (184, .iinc 7 1, []), (187, .goto (-67), [120])]),
  (190, [false, false, false, false, false, false, true, false, false], [(190, .iload 6, []), (192, .ireturn, [])])]
def zv_b191 : List (Nat × List Bool × List zv_I) := [
  (0, [true, true, true, false, false, false], [(0, .iload_n 1, []), (1, .iconst 0, []), (2, .aload_n 0, []), (3, .getfield 7, [12, 0, 2]), (6, .bipush 14, []), (8, .iaload, []), (9, .iconst 1, []), (10, .isub, []), (11, .invokestatic 69, [121, 3, 1]), (14, .ifCond .eq 12, [26]), (17, .iload_n 2, []), (18, .iconst 0, []), (19, .iconst 3, []), (20, .invokestatic 69, [121, 3, 1]), (23, .ifCond .ne 5, [28]), (26, .nop, [26])]),
  (26, [false, false, false, false, false, false], [(26, .iconst (-1), []), (27, .ireturn, [])]),
  (28, [true, true, true, false, false, false], [(28, .iload_n 2, []), (29, .ifCond .le 12, [41]), (32, .aload_n 0, []), (33, .iload_n 1, []), (34, .iload_n 2, []), (35, .iconst 1, []), (36, .isub, []), (37, .invokevirtual 307, [190, 2, 1]), (40, .ireturn, [])]),
  (41, [true, true, false, false, false, false], [(41, .sipush 1500, []), (44, .iconst 4, []), (45, .iload_n 1, []), (46, .imul, []), (47, .iadd, []), (48, .istore_n 3, []), (49, .iconst 0, []), (50, .istore 4, []), (52, .iconst 0, []), (53, .istore 5, []), (55, .nop, [55])]),
  (55, [true, false, false, true, true, true], [(55, .iload 5, []), (57, .aload_n 0, []), (58, .getfield 7, [12, 0, 2]), (61, .bipush 13, []), (63, .iaload, []), (64, .if_icmp .ge 89, [153]), (67, .iload 4, []), (69, .aload_n 0, []), (70, .getfield 7, [12, 0, 2]), (73, .sipush 1300, []), (76, .iconst 2, []), (77, .iload 5, []), (79, .imul, []), (80, .iadd, []), (81, .iaload, []), (82, .aload_n 0, []), (83, .getfield 7, [12, 0, 2]), (86, .iload_n 3, []), (87, .iaload, []), (88, .aload_n 0, []), (89, .getfield 7, [12, 0, 2]), (92, .iload_n 3, []), (93, .iconst 2, []), (94, .iadd, []), (95, .iaload, []), (96, .invokestatic 69, [121, 3, 1]), (99, .ifCond .eq 44, [143]), (102, .aload_n 0, []), (103, .getfield 7, [12, 0, 2]), (106, .sipush 1300, []), (109, .iconst 2, []), (110, .iload 5, []), (112, .imul, []), (113, .iadd, []), (114, .iconst 1, []), (115, .iadd, []), (116, .iaload, []), (117, .aload_n 0, []), (118, .getfield 7, [12, 0, 2]), (121, .iload_n 3, []), (122, .iconst 1, []), (123, .iadd, []), (124, .iaload, []), (125, .aload_n 0, []), (126, .getfield 7, [12, 0, 2]), (129, .iload_n 3, []), (130, .iconst 3, []), (131, .iadd, []), (132, .iaload, []), (133, .invokestatic 69, [121, 3, 1]), (136, .ifCond .eq 7, [143]), (139, .iconst 1, []), (140, .goto 4, [144])]),
  (143, [true, false, false, true, false, true], [(143, .iconst 0, []), (144, .nop, [144])]),
  (144, [true, false, false, true, false, true], [(144, .iadd, []), (145, .istore 4, []), (147, .iinc 5 1, []), (150, .goto (-95), [55])]),
  (153, [false, false, false, false, true, false], [(153, .iload 4, []), (155, .ireturn, [])])]
def zv_b192 : List (Nat × List Bool × List zv_I) := [
  (0, [true, false, false, false, false, false], [(0, .iconst 0, []), (1, .istore_n 1, []), (2, .iconst (-1), []), (3, .istore_n 2, []), (4, .iconst 0, []), (5, .istore_n 3, []), (6, .nop, [6])]),
  (6, [true, true, true, true, false, false], [(6, .iload_n 3, []), (7, .iconst 3, []), (8, .if_icmp .ge 64, [72]), (11, .iconst 0, []), (12, .istore 4, []), (14, .iconst 0, []), (15, .istore 5, []), (17, .nop, [17])]),
  (17, [true, true, true, true, true, true], [(17, .iload 5, []), (19, .aload_n 0, []), (20, .getfield 7, [12, 0, 2]), (23, .bipush 14, []), (25, .iaload, []), (26, .if_icmp .ge 21, [47]), (29, .iload 4, []), (31, .aload_n 0, []), (32, .iload 5, []), (34, .iload_n 3, []), (35, .invokevirtual 307, [190, 2, 1]), (38, .iadd, []), (39, .istore 4, []), (41, .iinc 5 1, []), (44, .goto (-27), [17])]),
  (47, [true, true, true, true, true, false], [(47, .iload_n 2, []), (48, .iconst (-1), []), (49, .if_icmp .eq 12, [61]), (52, .iload 4, []), (54, .iload_n 2, []), (55, .if_icmp .lt 6, [61]), (58, .goto 8, [66])]),
  (61, [true, false, false, true, true, false], [(61, .iload_n 3, []), (62, .istore_n 1, []), (63, .iload 4, []), (65, .istore_n 2, []), (66, .nop, [66])]),
  (66, [true, true, true, true, false, false], [(66, .iinc 3 1, []), (69, .goto (-63), [6])]),
  (72, [false, true, false, false, false, false], [(72, .iload_n 1, []), (73, .ireturn, [])])]
def zv_b193 : List (Nat × List Bool × List zv_I) := [
  (0, [true, true, false], [(0, .iload_n 1, []), (1, .ifCond .ne 12, [13]), (4, .aload_n 0, []), (5, .getfield 310, [12, 3, 3]), (8, .ifCond .ne 5, [13]), (11, .iconst 0, []), (12, .ireturn, [])]),
  (13, [true, true, false], [(13, .iconst 0, []), (14, .istore_n 2, []), (15, .nop, [15])]),
  (15, [true, true, true], [(15, .iload_n 2, []), (16, .sipush 1668, []), (19, .if_icmp .ge 40, [59]), (22, .iload_n 1, []), (23, .ifCond .eq 18, [41]), (26, .aload_n 0, []), (27, .getfield 13, [12, 1, 2]), (30, .iload_n 2, []), (31, .aload_n 0, []), (32, .getfield 7, [12, 0, 2]), (35, .iload_n 2, []), (36, .iaload, []), (37, .iastore, []), (38, .goto 15, [53])]),
  (41, [true, true, true], [(41, .aload_n 0, []), (42, .getfield 7, [12, 0, 2]), (45, .iload_n 2, []), (46, .aload_n 0, []), (47, .getfield 13, [12, 1, 2]), (50, .iload_n 2, []), (51, .iaload, []), (52, .iastore, []), (53, .nop, [53])]),
  (53, [true, true, true], [(53, .iinc 2 1, []), (56, .goto (-41), [15])]),
  (59, [true, false, false], [(59, .aload_n 0, []), (60, .iconst 1, []), (61, .putfield 310, [12, 3, 3]), (64, .iconst 1, []), (65, .ireturn, [])])]
def zv_b194 : List (Nat × List Bool × List zv_I) := [
  (0, [true, true], [(0, .iload_n 1, []), (1, .tableswitch 121 0 9 #[55, 60, 68, 76, 121, 81, 89, 97, 105, 113], [55, 122, 56, 61, 69, 77, 122, 82, 90, 98, 106, 114])]),
  (56, [true, false], [(56, .aload_n 0, []), (57, .invokevirtual 110, [127, 0, 1]), (60, .ireturn, [])]),
  (61, [true, false], [(61, .aload_n 0, []), (62, .getfield 7, [12, 0, 2]), (65, .bipush 8, []), (67, .iaload, []), (68, .ireturn, [])]),
  (69, [true, false], [(69, .aload_n 0, []), (70, .getfield 7, [12, 0, 2]), (73, .bipush 9, []), (75, .iaload, []), (76, .ireturn, [])]),
  (77, [true, false], [(77, .aload_n 0, []), (78, .invokevirtual 81, [126, 0, 1]), (81, .ireturn, [])]),
  (82, [true, false], [(82, .aload_n 0, []), (83, .getfield 7, [12, 0, 2]), (86, .bipush 10, []), (88, .iaload, []), (89, .ireturn, [])]),
  (90, [true, false], [(90, .aload_n 0, []), (91, .getfield 7, [12, 0, 2]), (94, .bipush 11, []), (96, .iaload, []), (97, .ireturn, [])]),
  (98, [true, false], [(98, .aload_n 0, []), (99, .getfield 7, [12, 0, 2]), (102, .bipush 12, []), (104, .iaload, []), (105, .ireturn, [])]),
  (106, [true, false], [(106, .aload_n 0, []), (107, .getfield 7, [12, 0, 2]), (110, .bipush 13, []), (112, .iaload, []), (113, .ireturn, [])]),
  (114, [true, false], [(114, .aload_n 0, []), (115, .getfield 7, [12, 0, 2]), (118, .bipush 14, []), (120, .iaload, []), (121, .ireturn, [])]),
  (122, [true, true], [(122, .iload_n 1, []), (123, .bipush 20, []), (125, .bipush 27, []), (127, .invokestatic 69, [121, 3, 1]), (130, .ifCond .eq 13, [143]), (133, .aload_n 0, []), (134, .getfield 7, [12, 0, 2]), (137, .iload_n 1, []), (138, .bipush 20, []), (140, .isub, []), (141, .iaload, []), (142, .ireturn, [])]),
  (143, [true, true], [(143, .iload_n 1, []), (144, .iconst 4, []), (145, .if_icmp .eq 16, [161]), (148, .iload_n 1, []), (149, .bipush 10, []), (151, .bipush 19, []), (153, .invokestatic 69, [121, 3, 1]), (156, .ifCond .ne 5, [161]), (159, .iconst (-1), []), (160, .ireturn, [])]),
  (161, [true, true], [(161, .aload_n 0, []), (162, .aload_n 0, []), (163, .getfield 7, [12, 0, 2]), (166, .iconst 0, []), (167, .iaload, []), (168, .invokevirtual 250, [162, 1, 0]), (171, .iload_n 1, []), (172, .iconst 4, []), (173, .if_icmp .ne 10, [183]), (176, .aload_n 0, []), (177, .getfield 233, [12, 25, 0]), (180, .goto 33, [213])]),
  (183, [true, true], [(183, .iload_n 1, []), (184, .bipush 10, []), (186, .isub, []), (187, .iconst 0, []), (188, .aload_n 0, []), (189, .getfield 233, [12, 25, 0]), (192, .iconst 1, []), (193, .isub, []), (194, .invokestatic 69, [121, 3, 1]), (197, .ifCond .eq 15, [212]), (200, .aload_n 0, []), (201, .getfield 54, [12, 23, 2]), (204, .iload_n 1, []), (205, .bipush 10, []), (207, .isub, []), (208, .iaload, []), (209, .goto 4, [213])]),
  (212, [false, false], [(212, .iconst (-1), []), (213, .nop, [213])]),
  (213, [false, false], [(213, .ireturn, [])])]
def zv_b195 : List (Nat × List Bool × List zv_I) := [
  (0, [true, false, true, false, false, false], [(0, .lload_n 0, []), (1, .lload_n 2, []), (2, .ldiv, []), (3, .lstore 4, []), (5, .lload_n 0, []), (6, .lload_n 2, []), (7, .lxor, []), (8, .lconst 0, []), (9, .lcmp, []), (10, .ifCond .ge 17, [27]), (13, .lload 4, []), (15, .lload_n 2, []), (16, .lmul, []), (17, .lload_n 0, []), (18, .lcmp, []), (19, .ifCond .eq 8, [27]), (22, .lload 4, []), (24, .lconst 1, []), (25, .lsub, []), (26, .lreturn, [])]),
  (27, [false, false, false, false, true, false], [(27, .lload 4, []), (29, .lreturn, [])])]
def zv_b196 : List (Nat × List Bool × List zv_I) := [
  (0, [true], [(0, .iload_n 0, []), (1, .ifCond .ge 8, [9]), (4, .iload_n 0, []), (5, .ineg, []), (6, .goto 4, [10])]),
  (9, [true], [(9, .iload_n 0, []), (10, .nop, [10])]),
  (10, [false], [(10, .ireturn, [])])]
def zv_b197 : List (Nat × List Bool × List zv_I) := [
  (0, [true, true], [(0, .iload_n 0, []), (1, .iload_n 1, []), (2, .if_icmp .lt 7, [9]), (5, .iload_n 0, []), (6, .goto 4, [10])]),
  (9, [false, true], [(9, .iload_n 1, []), (10, .nop, [10])]),
  (10, [false, false], [(10, .ireturn, [])])]
def zv_b198 : List (Nat × List Bool × List zv_I) := [
  (0, [true, false, true, false], [(0, .lload_n 0, []), (1, .lload_n 2, []), (2, .lcmp, []), (3, .ifCond .lt 7, [10]), (6, .lload_n 0, []), (7, .goto 4, [11])]),
  (10, [false, false, true, false], [(10, .lload_n 2, []), (11, .nop, [11])]),
  (11, [false, false, false, false], [(11, .lreturn, [])])]
def zv_b199 : List (Nat × List Bool × List zv_I) := [
  (0, [true, true], [(0, .iload_n 0, []), (1, .iload_n 1, []), (2, .if_icmp .gt 7, [9]), (5, .iload_n 0, []), (6, .goto 4, [10])]),
  (9, [false, true], [(9, .iload_n 1, []), (10, .nop, [10])]),
  (10, [false, false], [(10, .ireturn, [])])]
def zv_b200 : List (Nat × List Bool × List zv_I) := [
  (0, [true, false, true, false], [(0, .lload_n 0, []), (1, .lload_n 2, []), (2, .lcmp, []), (3, .ifCond .gt 7, [10]), (6, .lload_n 0, []), (7, .goto 4, [11])]),
  (10, [false, false, true, false], [(10, .lload_n 2, []), (11, .nop, [11])]),
  (11, [false, false, false, false], [(11, .lreturn, [])])]
def zv_b201 : List (Nat × List Bool × List zv_I) := [
  (0, [true], [(0, .aload_n 0, []), (1, .getfield 9, [22, 0, 8]), (4, .arraylength, []), (5, .aload_n 0, []), (6, .invokevirtual 335, [203, 0, 1]), (9, .ishr, []), (10, .ireturn, [])])]
def zv_b202 : List (Nat × List Bool × List zv_I) := [
  (0, [true, true], [(0, .aload_n 0, []), (1, .invokevirtual 492, [204, 0, 1]), (4, .ifCond .eq 12, [16]), (7, .aload_n 0, []), (8, .getfield 9, [22, 0, 8]), (11, .iload_n 1, []), (12, .invokestatic 495, [206, 2, 1]), (15, .ireturn, [])]),
  (16, [true, true], [(16, .aload_n 0, []), (17, .getfield 9, [22, 0, 8]), (20, .iload_n 1, []), (21, .invokestatic 498, [998, 2, 1]), (24, .ireturn, [])])]
def zv_b203 : List (Nat × List Bool × List zv_I) := [
  (0, [true], [(0, .getstatic 38, [1, 1]), (3, .ifCond .eq 10, [13]), (6, .aload_n 0, []), (7, .getfield 15, [22, 1, 9]), (10, .goto 4, [14])]),
  (13, [false], [(13, .iconst 1, []), (14, .nop, [14])]),
  (14, [false], [(14, .ireturn, [])])]
def zv_b204 : List (Nat × List Bool × List zv_I) := [
  (0, [true], [(0, .getstatic 38, [1, 1]), (3, .ifCond .eq 14, [17]), (6, .aload_n 0, []), (7, .getfield 15, [22, 1, 9]), (10, .ifCond .ne 7, [17]), (13, .iconst 1, []), (14, .goto 4, [18])]),
  (17, [false], [(17, .iconst 0, []), (18, .nop, [18])]),
  (18, [false], [(18, .ireturn, [])])]
def zv_b205 : List (Nat × List Bool × List zv_I) := [
  (0, [true, true], [(0, .iload_n 0, []), (1, .iload_n 1, []), (2, .getstatic 1053, [0, 90]), (5, .invokestatic 1059, [208, 3, 1]), (8, .pop, []), (9, .return_, [])])]
def zv_b206 : List (Nat × List Bool × List zv_I) := [
  (0, [true, true], [(0, .iload_n 1, []), (1, .aload_n 0, []), (2, .arraylength, []), (3, .invokestatic 9, [205, 2, 0]), (6, .aload_n 0, []), (7, .iload_n 1, []), (8, .baload, [2]), (9, .sipush 255, []), (12, .iand, []), (13, .i2c, []), (14, .ireturn, [])])]
def zv_b207 : List (Nat × List Bool × List zv_I) := [
  (0, [true, true, false, false], [(0, .iconst 0, []), (1, .istore_n 2, []), (2, .aload_n 0, []), (3, .arraylength, []), (4, .istore_n 3, []), (5, .nop, [5])]),
  (5, [true, true, true, true], [(5, .iload_n 2, []), (6, .iload_n 3, []), (7, .if_icmp .ge 13, [20]), (10, .aload_n 0, []), (11, .iload_n 2, []), (12, .iload_n 1, []), (13, .iastore, []), (14, .iinc 2 1, []), (17, .goto (-12), [5])]),
  (20, [false, false, false, false], [(20, .return_, [])])]
def zv_b208 : List (Nat × List Bool × List zv_I) := [
  (0, [true, true, true], [(0, .iload_n 0, []), (1, .ifCond .lt 8, [9]), (4, .iload_n 0, []), (5, .iload_n 1, []), (6, .if_icmp .lt 10, [16]), (9, .nop, [9])]),
  (9, [true, true, true], [(9, .aload_n 2, []), (10, .iload_n 0, []), (11, .iload_n 1, []), (12, .invokestatic 95, [998, 0, 0]), (15, .athrow, [])]),
  (16, [true, false, false], [(16, .iload_n 0, []), (17, .ireturn, [])])]
def zv_b209 : List (Nat × List Bool × List zv_I) := [
  (0, [true, false, false, false], [(0, .new 7, [11]), (3, .dup, []), (4, .invokespecial 9, [81, 0, 0]), (7, .astore_n 1, []), (8, .new 10, [12]), (11, .dup, []), (12, .invokespecial 12, [120, 0, 0]), (15, .astore_n 2, []), (16, .iconst 0, []), (17, .istore_n 3, []), (18, .nop, [18])]),
  (18, [true, true, true, true], [(18, .iload_n 3, []), (19, .aload_n 0, []), (20, .arraylength, []), (21, .bipush 6, []), (23, .isub, []), (24, .if_icmp .gt 1102, [1126]), (27, .aload_n 0, []), (28, .iload_n 3, []), (29, .iaload, []), (30, .bipush 31, []), (32, .iand, []), (33, .tableswitch 1087 0 30 #[139, 202, 225, 238, 261, 294, 317, 340, 379, 392, 415, 438, 461, 505, 548, 591, 624, 647, 680, 703, 716, 739, 762, 785, 834, 893, 926, 979, 1012, 1025, 1064], [139, 1120, 172, 235, 258, 271, 294, 327, 350, 373, 412, 425, 448, 471, 494, 538, 581, 624, 657, 680, 713, 736, 749, 772, 795, 818, 867, 926, 959, 1012, 1045, 1058, 1097])]),
  (172, [true, true, true, true], [(172, .aload_n 1, []), (173, .aload_n 0, []), (174, .iload_n 3, []), (175, .iconst 1, []), (176, .iadd, []), (177, .iaload, []), (178, .aload_n 0, []), (179, .iload_n 3, []), (180, .iconst 2, []), (181, .iadd, []), (182, .iaload, []), (183, .aload_n 0, []), (184, .iload_n 3, []), (185, .iconst 3, []), (186, .iadd, []), (187, .iaload, []), (188, .aload_n 0, []), (189, .iload_n 3, []), (190, .iconst 4, []), (191, .iadd, []), (192, .iaload, []), (193, .aload_n 0, []), (194, .iload_n 3, []), (195, .iconst 5, []), (196, .iadd, []), (197, .iaload, []), (198, .invokevirtual 13, [82, 5, 1]), (201, .aload_n 2, []), (202, .aload_n 0, []), (203, .iload_n 3, []), (204, .iconst 1, []), (205, .iadd, []), (206, .iaload, []), (207, .aload_n 0, []), (208, .iload_n 3, []), (209, .iconst 2, []), (210, .iadd, []), (211, .iaload, []), (212, .aload_n 0, []), (213, .iload_n 3, []), (214, .iconst 3, []), (215, .iadd, []), (216, .iaload, []), (217, .aload_n 0, []), (218, .iload_n 3, []), (219, .iconst 4, []), (220, .iadd, []), (221, .iaload, []), (222, .aload_n 0, []), (223, .iload_n 3, []), (224, .iconst 5, []), (225, .iadd, []), (226, .iaload, []), (227, .invokevirtual 17, [142, 5, 1]), (230, .if_icmp .eq 890, [1120]), (233, .iconst 0, []), (234, .ireturn, [])]),
  (235, [true, true, true, true], [(235, .aload_n 1, []), (236, .aload_n 0, []), (237, .iload_n 3, []), (238, .iconst 1, []), (239, .iadd, []), (240, .iaload, []), (241, .invokevirtual 18, [83, 1, 1]), (244, .aload_n 2, []), (245, .aload_n 0, []), (246, .iload_n 3, []), (247, .iconst 1, []), (248, .iadd, []), (249, .iaload, []), (250, .invokevirtual 22, [143, 1, 1]), (253, .if_icmp .eq 867, [1120]), (256, .iconst 0, []), (257, .ireturn, [])]),
  (258, [true, true, true, true], [(258, .aload_n 1, []), (259, .invokevirtual 23, [84, 0, 1]), (262, .aload_n 2, []), (263, .invokevirtual 27, [156, 0, 1]), (266, .if_icmp .eq 854, [1120]), (269, .iconst 0, []), (270, .ireturn, [])]),
  (271, [true, true, true, true], [(271, .aload_n 1, []), (272, .aload_n 0, []), (273, .iload_n 3, []), (274, .iconst 1, []), (275, .iadd, []), (276, .iaload, []), (277, .invokevirtual 28, [85, 1, 1]), (280, .aload_n 2, []), (281, .aload_n 0, []), (282, .iload_n 3, []), (283, .iconst 1, []), (284, .iadd, []), (285, .iaload, []), (286, .invokevirtual 32, [157, 1, 1]), (289, .if_icmp .eq 831, [1120]), (292, .iconst 0, []), (293, .ireturn, [])]),
  (294, [true, true, true, true], [(294, .aload_n 1, []), (295, .aload_n 0, []), (296, .iload_n 3, []), (297, .iconst 1, []), (298, .iadd, []), (299, .iaload, []), (300, .aload_n 0, []), (301, .iload_n 3, []), (302, .iconst 2, []), (303, .iadd, []), (304, .iaload, []), (305, .invokevirtual 33, [86, 2, 1]), (308, .aload_n 2, []), (309, .aload_n 0, []), (310, .iload_n 3, []), (311, .iconst 1, []), (312, .iadd, []), (313, .iaload, []), (314, .aload_n 0, []), (315, .iload_n 3, []), (316, .iconst 2, []), (317, .iadd, []), (318, .iaload, []), (319, .invokevirtual 37, [133, 2, 1]), (322, .if_icmp .eq 798, [1120]), (325, .iconst 0, []), (326, .ireturn, [])]),
  (327, [true, true, true, true], [(327, .aload_n 1, []), (328, .aload_n 0, []), (329, .iload_n 3, []), (330, .iconst 1, []), (331, .iadd, []), (332, .iaload, []), (333, .invokevirtual 38, [87, 1, 1]), (336, .aload_n 2, []), (337, .aload_n 0, []), (338, .iload_n 3, []), (339, .iconst 1, []), (340, .iadd, []), (341, .iaload, []), (342, .invokevirtual 41, [136, 1, 1]), (345, .if_icmp .eq 775, [1120]), (348, .iconst 0, []), (349, .ireturn, [])]),
  (350, [true, true, true, true], [(350, .aload_n 1, []), (351, .aload_n 0, []), (352, .iload_n 3, []), (353, .iconst 1, []), (354, .iadd, []), (355, .iaload, []), (356, .invokevirtual 42, [88, 1, 1]), (359, .aload_n 2, []), (360, .aload_n 0, []), (361, .iload_n 3, []), (362, .iconst 1, []), (363, .iadd, []), (364, .iaload, []), (365, .invokevirtual 45, [137, 1, 1]), (368, .if_icmp .eq 752, [1120]), (371, .iconst 0, []), (372, .ireturn, [])]),
  (373, [true, true, true, true], [(373, .aload_n 1, []), (374, .aload_n 0, []), (375, .iload_n 3, []), (376, .iconst 1, []), (377, .iadd, []), (378, .iaload, []), (379, .ifCond .eq 7, [386]), (382, .iconst 1, []), (383, .goto 4, [387])]),
  (386, [true, true, true, true], [(386, .iconst 0, []), (387, .nop, [387])]),
  (387, [true, true, true, true], [(387, .invokevirtual 46, [89, 1, 1]), (390, .aload_n 2, []), (391, .aload_n 0, []), (392, .iload_n 3, []), (393, .iconst 1, []), (394, .iadd, []), (395, .iaload, []), (396, .ifCond .eq 7, [403]), (399, .iconst 1, []), (400, .goto 4, [404])]),
  (403, [true, true, true, true], [(403, .iconst 0, []), (404, .nop, [404])]),
  (404, [true, true, true, true], [(404, .invokevirtual 50, [138, 1, 1]), (407, .if_icmp .eq 713, [1120]), (410, .iconst 0, []), (411, .ireturn, [])]),
  (412, [true, true, true, true], [(412, .aload_n 1, []), (413, .invokevirtual 51, [90, 0, 1]), (416, .aload_n 2, []), (417, .invokevirtual 54, [132, 0, 1]), (420, .if_icmp .eq 700, [1120]), (423, .iconst 0, []), (424, .ireturn, [])]),
  (425, [true, true, true, true], [(425, .aload_n 1, []), (426, .aload_n 0, []), (427, .iload_n 3, []), (428, .iconst 1, []), (429, .iadd, []), (430, .iaload, []), (431, .invokevirtual 55, [91, 1, 1]), (434, .aload_n 2, []), (435, .aload_n 0, []), (436, .iload_n 3, []), (437, .iconst 1, []), (438, .iadd, []), (439, .iaload, []), (440, .invokevirtual 58, [125, 1, 1]), (443, .if_icmp .eq 677, [1120]), (446, .iconst 0, []), (447, .ireturn, [])]),
  (448, [true, true, true, true], [(448, .aload_n 1, []), (449, .aload_n 0, []), (450, .iload_n 3, []), (451, .iconst 1, []), (452, .iadd, []), (453, .iaload, []), (454, .invokevirtual 59, [92, 1, 1]), (457, .aload_n 2, []), (458, .aload_n 0, []), (459, .iload_n 3, []), (460, .iconst 1, []), (461, .iadd, []), (462, .iaload, []), (463, .invokevirtual 62, [139, 1, 1]), (466, .if_icmp .eq 654, [1120]), (469, .iconst 0, []), (470, .ireturn, [])]),
  (471, [true, true, true, true], [(471, .aload_n 1, []), (472, .aload_n 0, []), (473, .iload_n 3, []), (474, .iconst 1, []), (475, .iadd, []), (476, .iaload, []), (477, .invokevirtual 63, [93, 1, 1]), (480, .aload_n 2, []), (481, .aload_n 0, []), (482, .iload_n 3, []), (483, .iconst 1, []), (484, .iadd, []), (485, .iaload, []), (486, .invokevirtual 66, [140, 1, 1]), (489, .if_icmp .eq 631, [1120]), (492, .iconst 0, []), (493, .ireturn, [])]),
  (494, [true, true, true, true], [(494, .aload_n 1, []), (495, .aload_n 0, []), (496, .iload_n 3, []), (497, .iconst 1, []), (498, .iadd, []), (499, .iaload, []), (500, .aload_n 0, []), (501, .iload_n 3, []), (502, .iconst 2, []), (503, .iadd, []), (504, .iaload, []), (505, .aload_n 0, []), (506, .iload_n 3, []), (507, .iconst 3, []), (508, .iadd, []), (509, .iaload, []), (510, .invokevirtual 67, [94, 3, 2]), (513, .aload_n 2, []), (514, .aload_n 0, []), (515, .iload_n 3, []), (516, .iconst 1, []), (517, .iadd, []), (518, .iaload, []), (519, .aload_n 0, []), (520, .iload_n 3, []), (521, .iconst 2, []), (522, .iadd, []), (523, .iaload, []), (524, .aload_n 0, []), (525, .iload_n 3, []), (526, .iconst 3, []), (527, .iadd, []), (528, .iaload, []), (529, .invokevirtual 71, [141, 3, 2]), (532, .lcmp, []), (533, .ifCond .eq 587, [1120]), (536, .iconst 0, []), (537, .ireturn, [])]),
  (538, [true, true, true, true], [(538, .aload_n 1, []), (539, .aload_n 0, []), (540, .iload_n 3, []), (541, .iconst 1, []), (542, .iadd, []), (543, .iaload, []), (544, .aload_n 0, []), (545, .iload_n 3, []), (546, .iconst 2, []), (547, .iadd, []), (548, .iaload, []), (549, .aload_n 0, []), (550, .iload_n 3, []), (551, .iconst 3, []), (552, .iadd, []), (553, .iaload, []), (554, .invokevirtual 72, [95, 3, 1]), (557, .aload_n 2, []), (558, .aload_n 0, []), (559, .iload_n 3, []), (560, .iconst 1, []), (561, .iadd, []), (562, .iaload, []), (563, .aload_n 0, []), (564, .iload_n 3, []), (565, .iconst 2, []), (566, .iadd, []), (567, .iaload, []), (568, .aload_n 0, []), (569, .iload_n 3, []), (570, .iconst 3, []), (571, .iadd, []), (572, .iaload, []), (573, .invokevirtual 76, [166, 3, 1]), (576, .if_icmp .eq 544, [1120]), (579, .iconst 0, []), (580, .ireturn, [])]),
  (581, [true, true, true, true], [(581, .aload_n 1, []), (582, .aload_n 0, []), (583, .iload_n 3, []), (584, .iconst 1, []), (585, .iadd, []), (586, .iaload, []), (587, .aload_n 0, []), (588, .iload_n 3, []), (589, .iconst 2, []), (590, .iadd, []), (591, .iaload, []), (592, .aload_n 0, []), (593, .iload_n 3, []), (594, .iconst 3, []), (595, .iadd, []), (596, .iaload, []), (597, .invokevirtual 77, [96, 3, 1]), (600, .aload_n 2, []), (601, .aload_n 0, []), (602, .iload_n 3, []), (603, .iconst 1, []), (604, .iadd, []), (605, .iaload, []), (606, .aload_n 0, []), (607, .iload_n 3, []), (608, .iconst 2, []), (609, .iadd, []), (610, .iaload, []), (611, .aload_n 0, []), (612, .iload_n 3, []), (613, .iconst 3, []), (614, .iadd, []), (615, .iaload, []), (616, .invokevirtual 80, [167, 3, 1]), (619, .if_icmp .eq 501, [1120]), (622, .iconst 0, []), (623, .ireturn, [])]),
  (624, [true, true, true, true], [(624, .aload_n 1, []), (625, .aload_n 0, []), (626, .iload_n 3, []), (627, .iconst 1, []), (628, .iadd, []), (629, .iaload, []), (630, .aload_n 0, []), (631, .iload_n 3, []), (632, .iconst 2, []), (633, .iadd, []), (634, .iaload, []), (635, .invokevirtual 81, [97, 2, 1]), (638, .aload_n 2, []), (639, .aload_n 0, []), (640, .iload_n 3, []), (641, .iconst 1, []), (642, .iadd, []), (643, .iaload, []), (644, .aload_n 0, []), (645, .iload_n 3, []), (646, .iconst 2, []), (647, .iadd, []), (648, .iaload, []), (649, .invokevirtual 85, [170, 2, 1]), (652, .if_icmp .eq 468, [1120]), (655, .iconst 0, []), (656, .ireturn, [])]),
  (657, [true, true, true, true], [(657, .aload_n 1, []), (658, .aload_n 0, []), (659, .iload_n 3, []), (660, .iconst 1, []), (661, .iadd, []), (662, .iaload, []), (663, .invokevirtual 86, [98, 1, 1]), (666, .aload_n 2, []), (667, .aload_n 0, []), (668, .iload_n 3, []), (669, .iconst 1, []), (670, .iadd, []), (671, .iaload, []), (672, .invokevirtual 89, [172, 1, 1]), (675, .if_icmp .eq 445, [1120]), (678, .iconst 0, []), (679, .ireturn, [])]),
  (680, [true, true, true, true], [(680, .aload_n 1, []), (681, .aload_n 0, []), (682, .iload_n 3, []), (683, .iconst 1, []), (684, .iadd, []), (685, .iaload, []), (686, .aload_n 0, []), (687, .iload_n 3, []), (688, .iconst 2, []), (689, .iadd, []), (690, .iaload, []), (691, .invokevirtual 90, [99, 2, 1]), (694, .aload_n 2, []), (695, .aload_n 0, []), (696, .iload_n 3, []), (697, .iconst 1, []), (698, .iadd, []), (699, .iaload, []), (700, .aload_n 0, []), (701, .iload_n 3, []), (702, .iconst 2, []), (703, .iadd, []), (704, .iaload, []), (705, .invokevirtual 93, [173, 2, 1]), (708, .if_icmp .eq 412, [1120]), (711, .iconst 0, []), (712, .ireturn, [])]),
  (713, [true, true, true, true], [(713, .aload_n 1, []), (714, .aload_n 0, []), (715, .iload_n 3, []), (716, .iconst 1, []), (717, .iadd, []), (718, .iaload, []), (719, .invokevirtual 94, [100, 1, 1]), (722, .aload_n 2, []), (723, .aload_n 0, []), (724, .iload_n 3, []), (725, .iconst 1, []), (726, .iadd, []), (727, .iaload, []), (728, .invokevirtual 97, [174, 1, 1]), (731, .if_icmp .eq 389, [1120]), (734, .iconst 0, []), (735, .ireturn, [])]),
  (736, [true, true, true, true], [(736, .aload_n 1, []), (737, .invokevirtual 98, [101, 0, 1]), (740, .aload_n 2, []), (741, .invokevirtual 101, [175, 0, 1]), (744, .if_icmp .eq 376, [1120]), (747, .iconst 0, []), (748, .ireturn, [])]),
  (749, [true, true, true, true], [(749, .aload_n 1, []), (750, .aload_n 0, []), (751, .iload_n 3, []), (752, .iconst 1, []), (753, .iadd, []), (754, .iaload, []), (755, .invokevirtual 102, [102, 1, 1]), (758, .aload_n 2, []), (759, .aload_n 0, []), (760, .iload_n 3, []), (761, .iconst 1, []), (762, .iadd, []), (763, .iaload, []), (764, .invokevirtual 105, [178, 1, 1]), (767, .if_icmp .eq 353, [1120]), (770, .iconst 0, []), (771, .ireturn, [])]),
  (772, [true, true, true, true], [(772, .aload_n 1, []), (773, .aload_n 0, []), (774, .iload_n 3, []), (775, .iconst 1, []), (776, .iadd, []), (777, .iaload, []), (778, .invokevirtual 106, [103, 1, 1]), (781, .aload_n 2, []), (782, .aload_n 0, []), (783, .iload_n 3, []), (784, .iconst 1, []), (785, .iadd, []), (786, .iaload, []), (787, .invokevirtual 109, [179, 1, 1]), (790, .if_icmp .eq 330, [1120]), (793, .iconst 0, []), (794, .ireturn, [])]),
  (795, [true, true, true, true], [(795, .aload_n 1, []), (796, .aload_n 0, []), (797, .iload_n 3, []), (798, .iconst 1, []), (799, .iadd, []), (800, .iaload, []), (801, .invokevirtual 110, [104, 1, 1]), (804, .aload_n 2, []), (805, .aload_n 0, []), (806, .iload_n 3, []), (807, .iconst 1, []), (808, .iadd, []), (809, .iaload, []), (810, .invokevirtual 113, [181, 1, 1]), (813, .if_icmp .eq 307, [1120]), (816, .iconst 0, []), (817, .ireturn, [])]),
  (818, [true, true, true, true], [(818, .aload_n 1, []), (819, .aload_n 0, []), (820, .iload_n 3, []), (821, .iconst 1, []), (822, .iadd, []), (823, .iaload, []), (824, .aload_n 0, []), (825, .iload_n 3, []), (826, .iconst 2, []), (827, .iadd, []), (828, .iaload, []), (829, .ifCond .eq 7, [836]), (832, .iconst 1, []), (833, .goto 4, [837])]),
  (836, [true, true, true, true], [(836, .iconst 0, []), (837, .nop, [837])]),
  (837, [true, true, true, true], [(837, .invokevirtual 114, [105, 2, 1]), (840, .aload_n 2, []), (841, .aload_n 0, []), (842, .iload_n 3, []), (843, .iconst 1, []), (844, .iadd, []), (845, .iaload, []), (846, .aload_n 0, []), (847, .iload_n 3, []), (848, .iconst 2, []), (849, .iadd, []), (850, .iaload, []), (851, .ifCond .eq 7, [858]), (854, .iconst 1, []), (855, .goto 4, [859])]),
  (858, [true, true, true, true], [(858, .iconst 0, []), (859, .nop, [859])]),
  (859, [true, true, true, true], [(859, .invokevirtual 118, [185, 2, 1]), (862, .if_icmp .eq 258, [1120]), (865, .iconst 0, []), (866, .ireturn, [])]),
  (867, [true, true, true, true], [(867, .aload_n 1, []), (868, .aload_n 0, []), (869, .iload_n 3, []), (870, .iconst 1, []), (871, .iadd, []), (872, .iaload, []), (873, .aload_n 0, []), (874, .iload_n 3, []), (875, .iconst 2, []), (876, .iadd, []), (877, .iaload, []), (878, .aload_n 0, []), (879, .iload_n 3, []), (880, .iconst 3, []), (881, .iadd, []), (882, .iaload, []), (883, .ifCond .eq 7, [890]), (886, .iconst 1, []), (887, .goto 4, [891])]),
  (890, [true, true, true, true], [(890, .iconst 0, []), (891, .nop, [891])]),
  (891, [true, true, true, true], [(891, .invokevirtual 119, [106, 3, 1]), (894, .aload_n 2, []), (895, .aload_n 0, []), (896, .iload_n 3, []), (897, .iconst 1, []), (898, .iadd, []), (899, .iaload, []), (900, .aload_n 0, []), (901, .iload_n 3, []), (902, .iconst 2, []), (903, .iadd, []), (904, .iaload, []), (905, .aload_n 0, []), (906, .iload_n 3, []), (907, .iconst 3, []), (908, .iadd, []), (909, .iaload, []), (910, .ifCond .eq 7, [917]), (913, .iconst 1, []), (914, .goto 4, [918])]),
  (917, [true, true, true, true], [(917, .iconst 0, []), (918, .nop, [918])]),
  (918, [true, true, true, true], [(918, .invokevirtual 123, [186, 3, 1]), (921, .if_icmp .eq 199, [1120]), (924, .iconst 0, []), (925, .ireturn, [])]),
  (926, [true, true, true, true], [(926, .aload_n 1, []), (927, .aload_n 0, []), (928, .iload_n 3, []), (929, .iconst 1, []), (930, .iadd, []), (931, .iaload, []), (932, .aload_n 0, []), (933, .iload_n 3, []), (934, .iconst 2, []), (935, .iadd, []), (936, .iaload, []), (937, .invokevirtual 124, [107, 2, 1]), (940, .aload_n 2, []), (941, .aload_n 0, []), (942, .iload_n 3, []), (943, .iconst 1, []), (944, .iadd, []), (945, .iaload, []), (946, .aload_n 0, []), (947, .iload_n 3, []), (948, .iconst 2, []), (949, .iadd, []), (950, .iaload, []), (951, .invokevirtual 127, [187, 2, 1]), (954, .if_icmp .eq 166, [1120]), (957, .iconst 0, []), (958, .ireturn, [])]),
  (959, [true, true, true, true], [(959, .aload_n 1, []), (960, .aload_n 0, []), (961, .iload_n 3, []), (962, .iconst 1, []), (963, .iadd, []), (964, .iaload, []), (965, .aload_n 0, []), (966, .iload_n 3, []), (967, .iconst 2, []), (968, .iadd, []), (969, .iaload, []), (970, .aload_n 0, []), (971, .iload_n 3, []), (972, .iconst 3, []), (973, .iadd, []), (974, .iaload, []), (975, .aload_n 0, []), (976, .iload_n 3, []), (977, .iconst 4, []), (978, .iadd, []), (979, .iaload, []), (980, .invokevirtual 128, [108, 4, 1]), (983, .aload_n 2, []), (984, .aload_n 0, []), (985, .iload_n 3, []), (986, .iconst 1, []), (987, .iadd, []), (988, .iaload, []), (989, .aload_n 0, []), (990, .iload_n 3, []), (991, .iconst 2, []), (992, .iadd, []), (993, .iaload, []), (994, .aload_n 0, []), (995, .iload_n 3, []), (996, .iconst 3, []), (997, .iadd, []), (998, .iaload, []), (999, .aload_n 0, []), (1000, .iload_n 3, []), (1001, .iconst 4, []), (1002, .iadd, []), (1003, .iaload, []), (1004, .invokevirtual 132, [188, 4, 1]), (1007, .if_icmp .eq 113, [1120]), (1010, .iconst 0, []), (1011, .ireturn, [])]),
  (1012, [true, true, true, true], [(1012, .aload_n 1, []), (1013, .aload_n 0, []), (1014, .iload_n 3, []), (1015, .iconst 1, []), (1016, .iadd, []), (1017, .iaload, []), (1018, .aload_n 0, []), (1019, .iload_n 3, []), (1020, .iconst 2, []), (1021, .iadd, []), (1022, .iaload, []), (1023, .invokevirtual 133, [109, 2, 1]), (1026, .aload_n 2, []), (1027, .aload_n 0, []), (1028, .iload_n 3, []), (1029, .iconst 1, []), (1030, .iadd, []), (1031, .iaload, []), (1032, .aload_n 0, []), (1033, .iload_n 3, []), (1034, .iconst 2, []), (1035, .iadd, []), (1036, .iaload, []), (1037, .invokevirtual 136, [191, 2, 1]), (1040, .if_icmp .eq 80, [1120]), (1043, .iconst 0, []), (1044, .ireturn, [])]),
  (1045, [true, true, true, true], [(1045, .aload_n 1, []), (1046, .invokevirtual 137, [110, 0, 1]), (1049, .aload_n 2, []), (1050, .invokevirtual 140, [192, 0, 1]), (1053, .if_icmp .eq 67, [1120]), (1056, .iconst 0, []), (1057, .ireturn, [])]),
  (1058, [true, true, true, true], [(1058, .aload_n 1, []), (1059, .aload_n 0, []), (1060, .iload_n 3, []), (1061, .iconst 1, []), (1062, .iadd, []), (1063, .iaload, []), (1064, .ifCond .eq 7, [1071]), (1067, .iconst 1, []), (1068, .goto 4, [1072])]),
  (1071, [true, true, true, true], [(1071, .iconst 0, []), (1072, .nop, [1072])]),
  (1072, [true, true, true, true], [(1072, .invokevirtual 141, [111, 1, 1]), (1075, .aload_n 2, []), (1076, .aload_n 0, []), (1077, .iload_n 3, []), (1078, .iconst 1, []), (1079, .iadd, []), (1080, .iaload, []), (1081, .ifCond .eq 7, [1088]), (1084, .iconst 1, []), (1085, .goto 4, [1089])]),
  (1088, [true, true, true, true], [(1088, .iconst 0, []), (1089, .nop, [1089])]),
  (1089, [true, true, true, true], [(1089, .invokevirtual 145, [193, 1, 1]), (1092, .if_icmp .eq 28, [1120]), (1095, .iconst 0, []), (1096, .ireturn, [])]),
  (1097, [true, true, true, true], [(1097, .aload_n 1, []), (1098, .aload_n 0, []), (1099, .iload_n 3, []), (1100, .iconst 1, []), (1101, .iadd, []), (1102, .iaload, []), (1103, .invokevirtual 146, [112, 1, 1]), (1106, .aload_n 2, []), (1107, .aload_n 0, []), (1108, .iload_n 3, []), (1109, .iconst 1, []), (1110, .iadd, []), (1111, .iaload, []), (1112, .invokevirtual 149, [194, 1, 1]), (1115, .if_icmp .eq 5, [1120]), (1118, .iconst 0, []), (1119, .ireturn, [])]),
  (1120, [true, true, true, true], [(1120, .iinc 3 6, []), (1123, .goto (-1105), [18])]),
  (1126, [false, false, false, false], [(1126, .iconst 1, []), (1127, .ireturn, [])])]
def zv_bt : List (List (Nat × List Bool × List zv_I)) := [zv_b0, zv_b1, zv_b2, zv_b3, zv_b4, zv_b5, zv_b6, zv_b7, zv_b8, zv_b9, zv_b10, zv_b11, zv_b12, zv_b13, zv_b14, zv_b15, zv_b16, zv_b17, zv_b18, zv_b19, zv_b20, zv_b21, zv_b22, zv_b23, zv_b24, zv_b25, zv_b26, zv_b27, zv_b28, zv_b29, zv_b30, zv_b31, zv_b32, zv_b33, zv_b34, zv_b35, zv_b36, zv_b37, zv_b38, zv_b39, zv_b40, zv_b41, zv_b42, zv_b43, zv_b44, zv_b45, zv_b46, zv_b47, zv_b48, zv_b49, zv_b50, zv_b51, zv_b52, zv_b53, zv_b54, zv_b55, zv_b56, zv_b57, zv_b58, zv_b59, zv_b60, zv_b61, zv_b62, zv_b63, zv_b64, zv_b65, zv_b66, zv_b67, zv_b68, zv_b69, zv_b70, zv_b71, zv_b72, zv_b73, zv_b74, zv_b75, zv_b76, zv_b77, zv_b78, zv_b79, zv_b80, zv_b81, zv_b82, zv_b83, zv_b84, zv_b85, zv_b86, zv_b87, zv_b88, zv_b89, zv_b90, zv_b91, zv_b92, zv_b93, zv_b94, zv_b95, zv_b96, zv_b97, zv_b98, zv_b99, zv_b100, zv_b101, zv_b102, zv_b103, zv_b104, zv_b105, zv_b106, zv_b107, zv_b108, zv_b109, zv_b110, zv_b111, zv_b112, zv_b113, zv_b114, zv_b115, zv_b116, zv_b117, zv_b118, zv_b119, zv_b120, zv_b121, zv_b122, zv_b123, zv_b124, zv_b125, zv_b126, zv_b127, zv_b128, zv_b129, zv_b130, zv_b131, zv_b132, zv_b133, zv_b134, zv_b135, zv_b136, zv_b137, zv_b138, zv_b139, zv_b140, zv_b141, zv_b142, zv_b143, zv_b144, zv_b145, zv_b146, zv_b147, zv_b148, zv_b149, zv_b150, zv_b151, zv_b152, zv_b153, zv_b154, zv_b155, zv_b156, zv_b157, zv_b158, zv_b159, zv_b160, zv_b161, zv_b162, zv_b163, zv_b164, zv_b165, zv_b166, zv_b167, zv_b168, zv_b169, zv_b170, zv_b171, zv_b172, zv_b173, zv_b174, zv_b175, zv_b176, zv_b177, zv_b178, zv_b179, zv_b180, zv_b181, zv_b182, zv_b183, zv_b184, zv_b185, zv_b186, zv_b187, zv_b188, zv_b189, zv_b190, zv_b191, zv_b192, zv_b193, zv_b194, zv_b195, zv_b196, zv_b197, zv_b198, zv_b199, zv_b200, zv_b201, zv_b202, zv_b203, zv_b204, zv_b205, zv_b206, zv_b207, zv_b208, zv_b209]
/-- of a method: most locals, kind of answer, its class, frames and words that its calls want, kind, number of parameters -/
def zv_mt : List (Nat × Nat × Nat × Nat × Nat × Nat × Nat) := [(1, 0, 0, 1, 20, 2, 0), (2, 0, 0, 1, 26, 1, 1), (1, 0, 0, 0, 0, 1, 0), (3, 0, 0, 1, 26, 1, 2), (2, 1, 0, 0, 0, 1, 1), (2, 0, 1, 3, 60, 2, 0), (5, 0, 1, 4, 112, 1, 4), (9, 1, 1, 2, 51, 1, 1), (2, 1, 1, 2, 49, 1, 1), (9, 1, 1, 1, 21, 1, 4), (3, 1, 1, 3, 79, 1, 0), (3, 1, 1, 0, 0, 1, 0), (10, 1, 1, 2, 51, 1, 1), (1, 0, 2, 2, 40, 2, 0), (10, 1, 2, 1, 31, 1, 4), (1, 0, 3, 1, 23, 2, 0), (4, 1, 3, 1, 23, 1, 1), (5, 1, 3, 2, 53, 1, 1), (8, 1, 3, 1, 26, 1, 3), (1, 0, 4, 1, 20, 2, 0), (2, 0, 4, 1, 26, 1, 1), (2, 1, 4, 1, 26, 1, 1), (3, 1, 4, 1, 26, 1, 1), (2, 4, 4, 2, 48, 1, 1), (4, 4, 4, 2, 48, 1, 2), (4, 0, 4, 2, 48, 1, 2), (3, 0, 4, 1, 26, 1, 2), (2, 0, 4, 1, 26, 1, 1), (3, 0, 5, 1, 20, 2, 1), (3, 0, 5, 1, 26, 1, 2), (3, 0, 5, 1, 21, 1, 1), (5, 0, 5, 3, 88, 1, 2), (16, 0, 5, 2, 53, 1, 4), (11, 2, 5, 1, 23, 0, 2), (2, 1, 5, 0, 0, 1, 1), (2, 1, 5, 0, 0, 1, 1), (7, 1, 5, 1, 25, 1, 2), (1, 0, 6, 1, 20, 2, 0), (2, 0, 6, 1, 26, 1, 1), (3, 1, 6, 1, 20, 1, 2), (6, 1, 6, 1, 20, 1, 4), (8, 1, 6, 0, 0, 1, 1), (8, 1, 6, 1, 24, 1, 2), (1, 4, 6, 0, 0, 0, 1), (5, 1, 6, 0, 0, 0, 3), (1, 0, 7, 1, 20, 2, 0), (5, 0, 7, 0, 0, 1, 2), (12, 0, 7, 0, 0, 1, 2), (9, 0, 7, 0, 0, 1, 2), (1, 0, 8, 1, 20, 2, 0), (4, 0, 8, 2, 46, 1, 2), (5, 4, 8, 2, 47, 1, 1), (2, 4, 8, 1, 21, 1, 1), (2, 4, 8, 0, 0, 1, 1), (3, 0, 8, 1, 24, 1, 1), (5, 1, 8, 0, 0, 1, 2), (1, 0, 9, 2, 43, 2, 0), (2, 0, 9, 2, 47, 1, 1), (1, 0, 9, 1, 26, 1, 0), (3, 4, 9, 1, 26, 1, 1), (4, 1, 9, 0, 0, 1, 0), (1, 1, 9, 1, 23, 1, 0), (1, 0, 10, 2, 40, 2, 0), (3, 0, 10, 0, 0, 1, 1), (3, 0, 10, 8, 177, 1, 1), (3, 4, 10, 0, 0, 1, 2), (2, 4, 10, 1, 22, 1, 1), (3, 4, 10, 2, 43, 1, 2), (2, 4, 10, 4, 97, 1, 1), (4, 4, 10, 3, 71, 1, 1), (7, 4, 10, 3, 71, 1, 1), (2, 4, 10, 3, 71, 1, 0), (2, 4, 10, 3, 65, 1, 1), (3, 0, 10, 7, 155, 1, 0), (3, 1, 10, 6, 133, 1, 2), (5, 1, 10, 5, 109, 1, 2), (7, 1, 10, 1, 21, 1, 2), (5, 4, 10, 4, 85, 1, 3), (2, 4, 10, 0, 0, 1, 1), (2, 4, 10, 0, 0, 1, 1), (1, 3, 10, 0, 0, 0, 1), (1, 0, 11, 4, 81, 2, 0), (6, 1, 11, 1, 22, 1, 5), (2, 4, 11, 0, 0, 1, 1), (1, 1, 11, 9, 199, 1, 0), (2, 1, 11, 0, 0, 1, 1), (3, 4, 11, 6, 156, 1, 2), (3, 1, 11, 6, 156, 1, 1), (2, 1, 11, 3, 71, 1, 1), (5, 1, 11, 3, 71, 1, 1), (1, 1, 11, 6, 156, 1, 0), (2, 1, 11, 2, 48, 1, 1), (2, 1, 11, 0, 0, 1, 1), (2, 1, 11, 2, 47, 1, 1), (8, 2, 11, 2, 47, 1, 3), (5, 1, 11, 1, 22, 1, 3), (4, 1, 11, 2, 51, 1, 3), (4, 1, 11, 3, 79, 1, 2), (2, 1, 11, 3, 80, 1, 1), (10, 1, 11, 2, 51, 1, 2), (6, 1, 11, 5, 136, 1, 1), (1, 1, 11, 2, 46, 1, 0), (2, 1, 11, 3, 77, 1, 1), (2, 1, 11, 0, 0, 1, 1), (8, 1, 11, 5, 136, 1, 1), (3, 4, 11, 3, 71, 1, 2), (8, 1, 11, 3, 71, 1, 3), (3, 1, 11, 2, 42, 1, 2), (5, 1, 11, 2, 45, 1, 4), (3, 1, 11, 2, 51, 1, 2), (6, 1, 11, 2, 51, 1, 0), (2, 4, 11, 5, 136, 1, 1), (2, 1, 11, 2, 43, 1, 1), (1, 0, 11, 5, 136, 1, 0), (3, 4, 11, 0, 0, 1, 2), (4, 1, 11, 0, 0, 1, 0), (9, 1, 11, 2, 60, 1, 1), (1, 4, 11, 0, 0, 0, 1), (2, 4, 11, 0, 0, 0, 2), (7, 1, 11, 0, 0, 0, 3), (1, 0, 12, 1, 20, 2, 0), (3, 4, 12, 0, 0, 0, 3), (1, 4, 12, 1, 22, 0, 1), (5, 1, 12, 0, 0, 1, 3), (5, 4, 12, 0, 0, 1, 4), (4, 1, 12, 1, 24, 1, 1), (3, 1, 12, 0, 0, 1, 0), (1, 1, 12, 1, 22, 1, 0), (6, 0, 12, 1, 24, 1, 2), (4, 1, 12, 0, 0, 1, 0), (3, 1, 12, 1, 23, 1, 0), (1, 0, 12, 0, 0, 1, 0), (1, 1, 12, 2, 45, 1, 0), (5, 4, 12, 3, 65, 1, 2), (6, 0, 12, 0, 0, 1, 4), (3, 0, 12, 1, 25, 1, 2), (3, 1, 12, 2, 49, 1, 1), (3, 1, 12, 2, 49, 1, 1), (6, 1, 12, 2, 49, 1, 1), (2, 1, 12, 1, 23, 1, 1), (5, 1, 12, 1, 23, 1, 1), (8, 2, 12, 1, 23, 1, 3), (8, 1, 12, 0, 0, 1, 5), (2, 4, 12, 1, 22, 1, 1), (2, 1, 12, 0, 0, 1, 1), (1, 4, 12, 1, 22, 0, 1), (1, 4, 12, 1, 22, 0, 1), (4, 4, 12, 4, 85, 1, 1), (1, 1, 12, 5, 108, 1, 0), (4, 0, 12, 6, 128, 1, 0), (3, 4, 12, 0, 0, 1, 2), (3, 4, 12, 7, 151, 1, 2), (4, 4, 12, 2, 49, 1, 2), (4, 4, 12, 8, 173, 1, 1), (6, 4, 12, 8, 173, 1, 1), (5, 4, 12, 9, 198, 1, 1), (4, 1, 12, 10, 222, 1, 0), (2, 1, 12, 0, 0, 1, 1), (10, 2, 12, 0, 0, 0, 2), (19, 4, 12, 0, 0, 1, 3), (8, 0, 12, 1, 38, 1, 1), (5, 0, 12, 2, 65, 1, 2), (3, 0, 12, 3, 89, 1, 1), (6, 2, 12, 0, 0, 0, 2), (9, 1, 12, 1, 25, 1, 3), (3, 4, 12, 1, 22, 1, 2), (4, 1, 12, 4, 111, 1, 3), (4, 1, 12, 4, 111, 1, 3), (9, 1, 12, 0, 0, 1, 4), (8, 1, 12, 2, 53, 1, 1), (4, 1, 12, 4, 111, 1, 2), (4, 1, 12, 0, 0, 1, 2), (8, 1, 12, 4, 111, 1, 1), (8, 1, 12, 4, 111, 1, 2), (7, 1, 12, 4, 111, 1, 1), (3, 1, 12, 1, 23, 1, 0), (3, 0, 12, 0, 0, 1, 2), (2, 4, 12, 0, 0, 1, 1), (10, 1, 12, 2, 42, 1, 1), (2, 1, 12, 1, 22, 1, 1), (7, 1, 12, 2, 65, 1, 3), (9, 1, 12, 3, 91, 1, 1), (5, 1, 12, 0, 0, 1, 2), (7, 0, 12, 1, 24, 1, 2), (5, 4, 12, 2, 42, 1, 3), (4, 4, 12, 3, 66, 1, 2), (7, 1, 12, 3, 66, 1, 3), (3, 1, 12, 1, 22, 1, 2), (6, 1, 12, 1, 22, 1, 4), (5, 1, 12, 0, 0, 0, 3), (9, 1, 12, 1, 24, 1, 2), (6, 1, 12, 2, 52, 1, 2), (6, 1, 12, 2, 52, 1, 0), (3, 4, 12, 0, 0, 1, 1), (2, 1, 12, 4, 111, 1, 1), (6, 2, 21, 0, 0, 0, 2), (1, 1, 21, 0, 0, 0, 1), (2, 1, 21, 0, 0, 0, 2), (4, 2, 21, 0, 0, 0, 2), (2, 1, 21, 0, 0, 0, 2), (4, 2, 21, 0, 0, 0, 2), (1, 1, 22, 1, 20, 1, 0), (2, 5, 22, 3, 64, 1, 1), (1, 6, 22, 0, 0, 1, 0), (1, 4, 22, 0, 0, 1, 0), (2, 0, 22, 1, 22, 0, 2), (2, 5, 23, 2, 43, 0, 2), (4, 0, 24, 0, 0, 0, 2), (3, 1, 25, 0, 0, 0, 3), (4, 4, 20, 11, 245, 0, 1)]
end
section
/-! jumps, calls, answers; the run -/
def zv_fnd (l : Nat) : List (Nat × List Bool × List zv_I) → Option (List Bool × List zv_I)
  | [] => none
  | b :: r => if b.1 = l then some b.2 else zv_fnd l r
def zv_blk (m l : Nat) : Option (List Bool × List zv_I) := match zv_bt[m]? with
  | some bs => zv_fnd l bs
  | none => none
def zv_mi (m : Nat) : Nat × Nat × Nat × Nat × Nat × Nat × Nat := match zv_mt[m]? with
  | some q => q
  | none => (0, 0, 99, 0, 0, 9, 0)
def zv_msk : List Bool → zv_L → zv_L
  | true :: bs, v :: ls => v :: zv_msk bs ls
  | false :: bs, _ :: ls => none :: zv_msk bs ls
  | _, ls => ls
def zv_jmp (m l : Nat) (ls : zv_L) (st : List Value) (μ : zv_M) : zv_C := match zv_blk m l with
  | some b => (m, l, zv_msk b.1 ls, st, μ)
  | none => (m, l, ls, st, μ)
def zv_flt : List Value → zv_L
  | [] => []
  | v :: r => if v.category = 2 then some v :: none :: zv_flt r else some v :: zv_flt r
def zv_ent (m : Nat) (as : List Value) : zv_L := zv_flt as ++ List.replicate ((zv_mi m).1 - (zv_flt as).length) none
def zv_if {α : Type} (c : ClassFile.Cond) (x y : Int32) (A B : Option α) : Option α := match c with
  | .eq => if x = y then A else B
  | .ne => if x = y then B else A
  | .lt => if x < y then A else B
  | .ge => if y ≤ x then A else B
  | .gt => if y < x then A else B
  | .le => if x ≤ y then A else B
def zv_rt (m : Nat) (v : Int32) (μ : zv_M) : Option zv_R := match (zv_mi m).2.1 with
  | 1 => some (some (.int v), μ)
  | 4 => if v = 0 ∨ v = 1 then some (some (.int v), μ) else none
  | 5 => if vp_nar .char v = v then some (some (.int v), μ) else none
  | 6 => if vp_nar .byte v = v then some (some (.int v), μ) else none
  | _ => none
def zv_ci {α : Type} (o : Option zv_R) (k : Int32 → zv_M → Option α) : Option α := match o with
  | some (some (.int v), μ) => k v μ
  | _ => none
def zv_cl {α : Type} (o : Option zv_R) (k : Int64 → zv_M → Option α) : Option α := match o with
  | some (some (.long v), μ) => k v μ
  | _ => none
def zv_cr {α : Type} (o : Option zv_R) (k : Nat → zv_M → Option α) : Option α := match o with
  | some (some (.retAddr v), μ) => k v μ
  | _ => none
def zv_cv {α : Type} (o : Option zv_R) (k : zv_M → Option α) : Option α := match o with
  | some (none, μ) => k μ
  | _ => none
/-- the callee's answer comes onto the stack -/
def zv_bk {α : Type} (rk : Nat) (o : Option zv_R) (st : List Value) (k : List Value → zv_M → Option α) : Option α := match rk with
  | 0 => zv_cv o (fun μ => k st μ)
  | 1 => zv_ci o (fun v μ => k (.int v :: st) μ)
  | 2 => zv_cl o (fun v μ => k (.long v :: st) μ)
  | 3 => zv_cr o (fun v μ => k (.retAddr v :: st) μ)
  | _ => none
/-- room for the call: the caller m, the callee c, what lies below its arguments -/
def zv_fit (m c n kd : Nat) (as rest : List Value) : Bool := decide ((zv_mi c).2.2.2.1 + 1 ≤ (zv_mi m).2.2.2.1) && decide (8 + ((zv_mi c).1 + 11) + (zv_mi c).2.2.2.2.1 ≤ (zv_mi m).2.2.2.2.1) && decide ((rest.map fun v => v.category).sum ≤ 8) && decide ((zv_flt as).length ≤ (zv_mi c).1) && decide ((zv_mi c).2.2.2.2.2.1 = kd) && decide ((zv_mi c).2.2.2.2.2.2 = n)
def zv_rcv {α : Type} (c : Nat) (v : Value) (μ : zv_M) (r : Option α) : Option α := match v with
  | .ref a => zv_ob μ (zv_mi c).2.2.1 a r
  | .retAddr i => if 20 ≤ i ∧ i < 27 ∧ (zv_mi c).2.2.1 = 22 then r else none
  | _ => none
def zv_cS (m : Nat) (K : zv_C → Option zv_R) (c n rk : Nat) (st : List Value) (μ : zv_M) (k : List Value → zv_M → Option zv_R) : Option zv_R :=
  if n ≤ st.length ∧ zv_fit m c n 0 (st.take n).reverse (st.drop n) = true then zv_bk rk (K (c, 0, zv_ent c (st.take n).reverse, [], μ)) (st.drop n) k else none
def zv_cV (m kd : Nat) (K : zv_C → Option zv_R) (c n rk : Nat) (st : List Value) (μ : zv_M) (k : List Value → zv_M → Option zv_R) : Option zv_R := match st.drop n with
  | r :: rest => if n ≤ st.length ∧ zv_fit m c n kd (r :: (st.take n).reverse) rest = true then zv_rcv c r μ (zv_bk rk (K (c, 0, zv_ent c (r :: (st.take n).reverse), [], μ)) rest k) else none
  | [] => none
def zv_one (X : zv_X) (m : Nat) (K : zv_C → Option zv_R) (q : zv_I) (ls : zv_L) (st : List Value) (μ : zv_M) (k : zv_L → List Value → zv_M → Option zv_R) : Option zv_R := match q.2.1 with
  | .nop => (match q.2.2 with
    | [l] => K (zv_jmp m l ls st μ)
    | _ => none)
  | .goto _ => (match q.2.2 with
    | [l] => K (zv_jmp m l ls st μ)
    | _ => none)
  | .ifCond c _ => (match q.2.2, st with
    | [l], .int x :: st => zv_if c x 0 (K (zv_jmp m l ls st μ)) (k ls st μ)
    | _, _ => none)
  | .if_icmp c _ => (match q.2.2, st with
    | [l], .int y :: .int x :: st => zv_if c x y (K (zv_jmp m l ls st μ)) (k ls st μ)
    | _, _ => none)
  | .ifnull _ => (match st with
    | .ref _ :: st => k ls st μ
    | _ => none)
  | .tableswitch _ lo hi _ => (match q.2.2, st with
    | _ :: df :: tg, .int x :: st => if x.toInt < lo ∨ hi < x.toInt then K (zv_jmp m df ls st μ) else (match tg[(x.toInt - lo).toNat]? with
      | some l => K (zv_jmp m l ls st μ)
      | none => none)
    | _, _ => none)
  | .ireturn => (match st with
    | [.int v] => zv_rt m v μ
    | _ => none)
  | .lreturn => (match st with
    | [.long v] => if (zv_mi m).2.1 = 2 then some (some (.long v), μ) else none
    | _ => none)
  | .areturn => (match st with
    | [.retAddr v] => if (zv_mi m).2.1 = 3 ∧ v ≠ 90 then some (some (.retAddr v), μ) else none
    | _ => none)
  | .return_ => (match st with
    | [] => if (zv_mi m).2.1 = 0 then some (none, μ) else none
    | _ => none)
  | .invokestatic i => (match q.2.2 with
    | [c, n, rk] => zv_cS m K c n rk st μ (fun st μ => k ls st μ)
    | _ => zv_op X (.invokestatic i) q.2.2 ls st μ k)
  | .invokevirtual i => (match q.2.2 with
    | [c, n, rk] => zv_cV m 1 K c n rk st μ (fun st μ => k ls st μ)
    | _ => zv_op X (.invokevirtual i) q.2.2 ls st μ k)
  | .invokespecial i => (match q.2.2 with
    | [c, n, rk] => zv_cV m 2 K c n rk st μ (fun st μ => k ls st μ)
    | _ => zv_op X (.invokespecial i) q.2.2 ls st μ k)
  | i => zv_op X i q.2.2 ls st μ k
def zv_exe (X : zv_X) (m : Nat) (K : zv_C → Option zv_R) : List zv_I → zv_L → List Value → zv_M → Option zv_R
  | [], _, _, _ => none
  | q :: r, ls, st, μ => zv_one X m K q ls st μ (fun ls st μ => zv_exe X m K r ls st μ)
def zv_step (X : zv_X) (K : zv_C → Option zv_R) (c : zv_C) : Option zv_R := match zv_blk c.1 c.2.1 with
  | some b => zv_exe X c.1 K b.2 c.2.2.1 c.2.2.2.1 c.2.2.2.2
  | none => none
def zv_run (X : zv_X) : Nat → zv_C → Option zv_R
  | 0, _ => none
  | n + 1, c => zv_step X (zv_run X n) c
section
variable (X : zv_X) (c : zv_C)
noncomputable def zR : Option zv_R := @dite _ (∃ n, (zv_run X n c).isSome = true) (Classical.propDecidable _) (fun h => zv_run X (Classical.choose h) c) (fun _ => none)
end
end
section
/-! THE REAL HEAP AND THE SMALL MEMORY: cell k lies at s0 + k -/
def zc (s0 : Nat) (ov : Nat → Value) (v : Value) : Value := match v with
  | .ref k => .ref (s0 + k)
  | .retAddr i => ov i
  | w => w
/-- kinds of the fields of each made kind: 0 int, 1 long, 2 reference, 3 boolean -/
def zv_ft : List (List Nat) := [[2, 2, 0, 0], [2, 2, 0, 0], [2, 2, 1, 1], [2], [2, 2, 0], [2, 0, 0, 0, 2, 2, 2, 2], [2, 2, 0, 2, 0], [2, 2, 0, 0, 1, 1], [2, 0, 0, 2, 0], [2, 2, 0, 2, 0, 2, 2, 2], [2, 0, 2, 2, 0, 0, 2, 2, 2, 0], [2, 2, 3, 2, 2, 2, 2, 2], [2, 2, 2, 3, 2, 2, 2, 0, 0, 0, 0, 0, 0, 0, 0, 0, 0, 2, 2, 2, 2, 2, 2, 2, 2, 0, 1, 1, 1, 1, 0, 2, 2]]
def zv_fs (c : Nat) : List Nat := match zv_ft[c]? with
  | some l => l
  | none => []
def zfv (s0 : Nat) (μ : zv_M) (k t j : Nat) : Value := match t with
  | 0 => .int (μ.2.1 k j)
  | 1 => .long (μ.2.2.1 k j)
  | 2 => va_rf ((μ.2.2.2 k j).map (fun x => s0 + x))
  | 3 => .int (μ.2.1 k j)
  | _ => .null
def zdt (s0 : Nat) (μ : zv_M) (k t : Nat) : (Nat → Int32) ⊕ (Nat → Int64) ⊕ (Nat → UInt32) ⊕ (Nat → UInt64) ⊕ (Nat → Option Nat) :=
  if t = 1 then .inr (.inl (μ.2.2.1 k)) else if 4 ≤ t then .inr (.inr (.inr (.inr (fun j => (μ.2.2.2 k j).map (fun x => s0 + x))))) else .inl (μ.2.1 k)
def zw (s0 : Nat) (cA : Nat → ClassId) (μ : zv_M) (k : Nat) : va_E := match μ.1[k]? with
  | some (.inl (t, n)) => .inl (cA t, n, zdt s0 μ k t)
  | some (.inr c) => .inr (c, (List.range (zv_fs c).length).map (fun j => zfv s0 μ k ((zv_fs c).getD j 9) j))
  | none => .inr (99, [])
def zws (s0 : Nat) (cA : Nat → ClassId) (μ : zv_M) : va_W := (List.range μ.1.length).map (fun k => (s0 + k, zw s0 cA μ k))
def zsz : (Nat × Nat) ⊕ Nat → Nat
  | .inl q => q.2
  | .inr c => (zv_fs c).length
def zsl : List ((Nat × Nat) ⊕ Nat) → Nat
  | [] => 0
  | a :: r => zsz a + zsl r
def zal (s0 : Nat) (ov : Nat → Value) (ls : zv_L) : List (Nat × Value) := (List.range ls.length).filterMap (fun j => match ls[j]? with
  | some (some v) => some (j, zc s0 ov v)
  | _ => none)
theorem zal_mem {s0 : Nat} {ov : Nat → Value} {ls : zv_L} {j : Nat} {u : Value} : (j, u) ∈ zal s0 ov ls ↔ ∃ v, ls[j]? = some (some v) ∧ u = zc s0 ov v := by
  unfold zal
  rw [List.mem_filterMap]
  constructor
  · rintro ⟨a, ha, h⟩
    split at h
    · rename_i v hv
      cases h
      exact ⟨v, hv, rfl⟩
    · cases h
  · rintro ⟨v, hv, rfl⟩
    refine ⟨j, List.mem_range.mpr ((List.getElem?_eq_some_iff.mp hv).1), ?_⟩
    rw [hv]
theorem zal_at {s0 : Nat} {ov : Nat → Value} {ls : zv_L} {rl : Array Slot} {nL j : Nat} {v : Value} (h : lv_has rl nL (zal s0 ov ls)) (hv : ls[j]? = some (some v)) : rl[j]? = some (.val (zc s0 ov v)) := h.2.2 (j, zc s0 ov v) (zal_mem.mpr ⟨v, hv, rfl⟩)
theorem zal_sub {s0 : Nat} {ov : Nat → Value} {ls : zv_L} {rl : Array Slot} {nL : Nat} {lv : List (Nat × Value)} (h : lv_has rl nL lv) (hs : ∀ j v, ls[j]? = some (some v) → (j, zc s0 ov v) ∈ lv) : lv_has rl nL (zal s0 ov ls) := ⟨h.1, h.2.1, fun q hq => by
  obtain ⟨j, u⟩ := q
  obtain ⟨v, h1, rfl⟩ := zal_mem.mp hq
  exact h.2.2 _ (hs j v h1)⟩
theorem zc_cat {s0 : Nat} {ov : Nat → Value} (ho : ∀ i, (ov i).category = 1) (v : Value) : (zc s0 ov v).category = v.category := by
  cases v <;> first | rfl | exact ho _
theorem zc_cats {s0 : Nat} {ov : Nat → Value} (ho : ∀ i, (ov i).category = 1) (l : List Value) : ((l.map (zc s0 ov)).map fun v => v.category).sum = (l.map fun v => v.category).sum := by
  rw [List.map_map]
  congr 1
  exact List.map_congr_left (fun v _ => zc_cat ho v)
theorem zws_get {s0 : Nat} {cA : Nat → ClassId} {μ : zv_M} {k : Nat} (h : k < μ.1.length) : (zws s0 cA μ)[k]? = some (s0 + k, zw s0 cA μ k) := by
  unfold zws
  rw [List.getElem?_map, List.getElem?_range h]
  rfl
theorem zws_len {s0 : Nat} {cA : Nat → ClassId} {μ : zv_M} : (zws s0 cA μ).length = μ.1.length := by simp [zws]
theorem zws_inv {s0 : Nat} {cA : Nat → ClassId} {μ : zv_M} {k : Nat} {q : Nat × va_E} (h : (zws s0 cA μ)[k]? = some q) : k < μ.1.length ∧ q = (s0 + k, zw s0 cA μ k) := by
  have hl : k < μ.1.length := by
    have := (List.getElem?_eq_some_iff.mp h).1
    rwa [zws_len] at this
  rw [zws_get hl] at h
  exact ⟨hl, (Option.some.inj h).symm⟩
theorem zws_D {s0 : Nat} {cA : Nat → ClassId} {μ : zv_M} : va_D (fun q => s0 ≤ q) (zws s0 cA μ) := by
  refine ⟨fun i j x y hx hy hxy => ?_, fun k q hk => ?_⟩
  · obtain ⟨-, rfl⟩ := zws_inv hx
    obtain ⟨-, rfl⟩ := zws_inv hy
    have h9 : s0 + i = s0 + j := hxy
    omega
  · obtain ⟨-, rfl⟩ := zws_inv hk
    exact Nat.le_add_right _ _
/-- two memories that differ at most in the cell k -/
def zoff (μ μ' : zv_M) (k : Nat) : Prop := μ'.1 = μ.1 ∧ ∀ j, j ≠ k → μ'.2.1 j = μ.2.1 j ∧ μ'.2.2.1 j = μ.2.2.1 j ∧ μ'.2.2.2 j = μ.2.2.2 j
theorem zw_same {s0 : Nat} {cA : Nat → ClassId} {μ μ' : zv_M} {j : Nat} (h0 : μ'.1[j]? = μ.1[j]?) (h1 : μ'.2.1 j = μ.2.1 j) (h2 : μ'.2.2.1 j = μ.2.2.1 j) (h3 : μ'.2.2.2 j = μ.2.2.2 j) : zw s0 cA μ' j = zw s0 cA μ j := by
  unfold zw
  rw [h0]
  split
  · simp only [zdt, h1, h2, h3]
  · congr 2
    apply List.map_congr_left
    intro i _
    unfold zfv
    split <;> simp only [h1, h2, h3]
  · rfl
theorem zws_set {s0 : Nat} {cA : Nat → ClassId} {μ μ' : zv_M} {k : Nat} {e : va_E} (h : zoff μ μ' k) (he : zw s0 cA μ' k = e) : (zws s0 cA μ).set k (s0 + k, e) = zws s0 cA μ' := by
  subst he
  apply List.ext_getElem?
  intro j
  have hlen : μ'.1.length = μ.1.length := by rw [h.1]
  by_cases hj : j < μ.1.length
  · rw [zws_get (by rw [hlen]; exact hj)]
    by_cases hk : k = j
    · subst hk
      rw [List.getElem?_set_self (by rw [zws_len]; exact hj)]
    · rw [List.getElem?_set_ne hk, zws_get hj]
      obtain ⟨a1, a2, a3⟩ := h.2 j (Ne.symm hk)
      rw [zw_same (by rw [h.1]) a1 a2 a3]
  · rw [List.getElem?_eq_none (by rw [List.length_set, zws_len]; omega), List.getElem?_eq_none (by rw [zws_len]; omega)]
theorem zws_push {s0 : Nat} {cA : Nat → ClassId} {μ μ' : zv_M} {sh : (Nat × Nat) ⊕ Nat} (h0 : μ'.1 = μ.1 ++ [sh]) (h : ∀ j, j < μ.1.length → μ'.2.1 j = μ.2.1 j ∧ μ'.2.2.1 j = μ.2.2.1 j ∧ μ'.2.2.2 j = μ.2.2.2 j) : zws s0 cA μ' = zws s0 cA μ ++ [(s0 + μ.1.length, zw s0 cA μ' μ.1.length)] := by
  have hlen : μ'.1.length = μ.1.length + 1 := by rw [h0, List.length_append]; rfl
  apply List.ext_getElem?
  intro j
  by_cases hj : j < μ.1.length
  · rw [zws_get (by omega), List.getElem?_append_left (by rw [zws_len]; exact hj), zws_get hj]
    obtain ⟨a1, a2, a3⟩ := h j hj
    rw [zw_same (by rw [h0, List.getElem?_append_left hj]) a1 a2 a3]
  · by_cases hk : j = μ.1.length
    · subst hk
      rw [zws_get (by omega), List.getElem?_append_right (by rw [zws_len]; exact Nat.le_refl _), zws_len, Nat.sub_self]
      rfl
    · rw [List.getElem?_eq_none (by rw [zws_len]; omega), List.getElem?_eq_none (by rw [List.length_append, zws_len]; simp only [List.length_cons, List.length_nil]; omega)]
theorem zsl_app (a b : List ((Nat × Nat) ⊕ Nat)) : zsl (a ++ b) = zsl a + zsl b := by
  induction a with
  | nil => simp [zsl]
  | cons x r ih => simp only [List.cons_append, zsl, ih]; omega
end
section
def zv_cn (c : Nat) : String := match c with
  | 0 => "GuessedPlace$Acts"
  | 1 => "GuessedPlace$Cover"
  | 2 => "GuessedPlace$Fit"
  | 3 => "GuessedPlace$Gaps"
  | 4 => "GuessedPlace$Keys"
  | 5 => "GuessedPlace$Level"
  | 6 => "GuessedPlace$Plane"
  | 7 => "GuessedPlace$Side"
  | 8 => "GuessedPlace$Sieve"
  | 9 => "GuessedPlace$State"
  | 10 => "GuessedPlace$Teller"
  | 11 => "GuessedPlace"
  | 12 => "GuessedPlaceModel"
  | 20 => "GuessedPlaceLaw"
  | 21 => "java/lang/Math"
  | 22 => "java/lang/String"
  | 23 => "java/lang/StringLatin1"
  | 24 => "java/util/Arrays"
  | 25 => "jdk/internal/util/Preconditions"
  | _ => ""
def zv_mns : List MethodName := [yX0_init, yX0_copyFrom, yX0_forget, yX0_note, yX0_step, yX1_init, yX1_over, yX1_find, yX1_findPlainly, yX1_halve, yX1_comparedOfAll, yX1_piecesOfAll, yX1_pagesOfAll, yX2_init, yX2_reach, yX3_init, yX3_fillEvenly, yX3_squeezeIn, yX3_push, yX4_init, yX4_copyFrom, yX4_below, yX4_countOf, yX4_has, yX4_canTake, yX4_change, yX4_makeWay, yX4_closeUp, yX5_init, yX5_takeRow, yX5_takeFirstKeys, yX5_coverBy, yX5_setLine, yX5_divisor, yX5_lastOf, yX5_firstKeyOf, yX5_guessed, yX6_init, yX6_copyFrom, yX6_addPoint, yX6_addBox, yX6_inside, yX6_readBy, yX6_isOn, yX6_number, yX7_init, yX7_begin, yX7_addBottom, yX7_addTop, yX8_init, yX8_ready, yX8_lets, yX8_isInSpan, yX8_isNearNext, yX8_mark, yX8_hash, yX9_init, yX9_copyFrom, yX9_standAll, yX9_stands, yX9_standing, yX9_waiting, yX10_init, yX10_addFour, yX10_readAll, yX10_fail, yX10_take, yX10_takeNumber, yX10_readStatement, yX10_readKey, yX10_readRun, yX10_readDrop, yX10_readSetting, yX10_splitTape, yX10_split, yX10_splitWord, yX10_splitNumber, yX10_stands, yX10_isLetter, yX10_isDigit, yX10_keyword, yX11_init, yX11_feed, yX11_end, yX11_text, yX11_fault, yX11_set, yX11_insert, yX11_remove, yX11_undo, yX11_build, yX11_count, yX11_key, yX11_rank, yX11_range, yX11_piece, yX11_guess, yX11_seek, yX11_pages, yX11_errors, yX11_bestSlack, yX11_lay, yX11_put, yX11_cell, yX11_poison, yX11_passes, yX11_falses, yX11_point, yX11_box, yX11_boxed, yX11_bestOrder, yX11_image, yX11_look, yX11_buildAll, yX11_isPiece, yX11_treeHeight, yX11_piecesWith, yX11_canBeKey, yX11_canBeTold, yX11_lessThan, yX12_init, yX12_isIn, yX12_isNumber, yX12_placeIn, yX12_isAt, yX12_count, yX12_gone, yX12_keys, yX12_counts, yX12_laysAll, yX12_builds, yX12_forgets, yX12_build, yX12_set, yX12_pushes, yX12_acts, yX12_insert, yX12_remove, yX12_undo, yX12_key, yX12_rank, yX12_range, yX12_feed, yX12_end, yX12_see, yX12_isLetter, yX12_isDigit, yX12_is, yX12_word, yX12_next0, yX12_bad, yX12_number, yX12_comes, yX12_aKey, yX12_aRun, yX12_statement, yX12_text, yX12_fault, yX12_common, yX12_comesTo, yX12_covers, yX12_laysLevels, yX12_laysRow, yX12_downwards, yX12_guessOf, yX12_isPiece, yX12_piece, yX12_guess, yX12_halves, yX12_seeks, yX12_seek, yX12_pieceOf, yX12_pages, yX12_errors, yX12_bestSlack, yX12_lay, yX12_fills, yX12_isFull, yX12_put, yX12_cell, yX12_piecesWith, yX12_poison, yX12_hash, yX12_setsBits, yX12_isPassed, yX12_passes, yX12_falses, yX12_point, yX12_box, yX12_numberBy, yX12_read, yX12_boxed, yX12_bestOrder, yX12_image, yX12_look, yJ9_floorDiv_f86c9, yJ9_abs_0f7a4, yJ9_max_7cf53, yJ9_max_f86c9, yJ9_min_7cf53, yJ9_min_f86c9, yJ0_length_8abf5, yJ0_charAt_5068e, yJ0_coder_7d493, yJ0_isLatin1_aae02, yJ0_checkIndex_df160, yJ1_charAt_3b067, yJ7_fill_53178, yJ3_checkIndex_8e157, x]
def zv_mbs : List ByteArray := [cX0_init, cX0_copyFrom, cX0_forget, cX0_note, cX0_step, cX1_init, cX1_over, cX1_find, cX1_findPlainly, cX1_halve, cX1_comparedOfAll, cX1_piecesOfAll, cX1_pagesOfAll, cX2_init, cX2_reach, cX3_init, cX3_fillEvenly, cX3_squeezeIn, cX3_push, cX4_init, cX4_copyFrom, cX4_below, cX4_countOf, cX4_has, cX4_canTake, cX4_change, cX4_makeWay, cX4_closeUp, cX5_init, cX5_takeRow, cX5_takeFirstKeys, cX5_coverBy, cX5_setLine, cX5_divisor, cX5_lastOf, cX5_firstKeyOf, cX5_guessed, cX6_init, cX6_copyFrom, cX6_addPoint, cX6_addBox, cX6_inside, cX6_readBy, cX6_isOn, cX6_number, cX7_init, cX7_begin, cX7_addBottom, cX7_addTop, cX8_init, cX8_ready, cX8_lets, cX8_isInSpan, cX8_isNearNext, cX8_mark, cX8_hash, cX9_init, cX9_copyFrom, cX9_standAll, cX9_stands, cX9_standing, cX9_waiting, cX10_init, cX10_addFour, cX10_readAll, cX10_fail, cX10_take, cX10_takeNumber, cX10_readStatement, cX10_readKey, cX10_readRun, cX10_readDrop, cX10_readSetting, cX10_splitTape, cX10_split, cX10_splitWord, cX10_splitNumber, cX10_stands, cX10_isLetter, cX10_isDigit, cX10_keyword, cX11_init, cX11_feed, cX11_end, cX11_text, cX11_fault, cX11_set, cX11_insert, cX11_remove, cX11_undo, cX11_build, cX11_count, cX11_key, cX11_rank, cX11_range, cX11_piece, cX11_guess, cX11_seek, cX11_pages, cX11_errors, cX11_bestSlack, cX11_lay, cX11_put, cX11_cell, cX11_poison, cX11_passes, cX11_falses, cX11_point, cX11_box, cX11_boxed, cX11_bestOrder, cX11_image, cX11_look, cX11_buildAll, cX11_isPiece, cX11_treeHeight, cX11_piecesWith, cX11_canBeKey, cX11_canBeTold, cX11_lessThan, cX12_init, cX12_isIn, cX12_isNumber, cX12_placeIn, cX12_isAt, cX12_count, cX12_gone, cX12_keys, cX12_counts, cX12_laysAll, cX12_builds, cX12_forgets, cX12_build, cX12_set, cX12_pushes, cX12_acts, cX12_insert, cX12_remove, cX12_undo, cX12_key, cX12_rank, cX12_range, cX12_feed, cX12_end, cX12_see, cX12_isLetter, cX12_isDigit, cX12_is, cX12_word, cX12_next0, cX12_bad, cX12_number, cX12_comes, cX12_aKey, cX12_aRun, cX12_statement, cX12_text, cX12_fault, cX12_common, cX12_comesTo, cX12_covers, cX12_laysLevels, cX12_laysRow, cX12_downwards, cX12_guessOf, cX12_isPiece, cX12_piece, cX12_guess, cX12_halves, cX12_seeks, cX12_seek, cX12_pieceOf, cX12_pages, cX12_errors, cX12_bestSlack, cX12_lay, cX12_fills, cX12_isFull, cX12_put, cX12_cell, cX12_piecesWith, cX12_poison, cX12_hash, cX12_setsBits, cX12_isPassed, cX12_passes, cX12_falses, cX12_point, cX12_box, cX12_numberBy, cX12_read, cX12_boxed, cX12_bestOrder, cX12_image, cX12_look, cJ9_floorDiv_f86c9, cJ9_abs_0f7a4, cJ9_max_7cf53, cJ9_max_f86c9, cJ9_min_7cf53, cJ9_min_f86c9, cJ0_length_8abf5, cJ0_charAt_5068e, cJ0_coder_7d493, cJ0_isLatin1_aae02, cJ0_checkIndex_df160, cJ1_charAt_3b067, cJ7_fill_53178, cJ3_checkIndex_8e157, cL_law]
def zv_mrs : List (Option FieldType) := [none, none, none, none, some .int, none, none, some .int, some .int, some .int, some .int, some .int, some .int, none, some .int, none, some .int, some .int, some .int, none, none, some .int, some .int, some .boolean, some .boolean, none, none, none, none, none, none, none, none, some .long, some .int, some .int, some .int, none, none, some .int, some .int, some .int, some .int, some .boolean, some .int, none, none, none, none, none, none, some .boolean, some .boolean, some .boolean, none, some .int, none, none, none, some .boolean, some .int, some .int, none, none, none, some .boolean, some .boolean, some .boolean, some .boolean, some .boolean, some .boolean, some .boolean, some .boolean, none, some .int, some .int, some .int, some .boolean, some .boolean, some .boolean, some (.object "java/lang/String"), none, some .int, some .boolean, some .int, some .int, some .boolean, some .int, some .int, some .int, some .int, some .int, some .int, some .int, some .long, some .int, some .int, some .int, some .int, some .int, some .int, some .int, some .int, some .int, some .int, some .boolean, some .int, some .int, some .int, some .int, some .int, some .boolean, some .int, none, some .boolean, some .int, some .int, some .boolean, some .boolean, some .int, none, some .boolean, some .boolean, some .int, some .boolean, some .int, some .int, some .int, none, some .int, some .int, none, some .int, some .boolean, none, none, some .int, some .int, some .int, some .int, some .int, some .long, some .int, some .boolean, some .int, some .boolean, some .boolean, some .boolean, some .int, none, some .boolean, some .boolean, some .boolean, some .boolean, some .boolean, some .boolean, some .int, some .int, some .long, some .boolean, none, none, none, some .long, some .int, some .boolean, some .int, some .int, some .int, some .int, some .int, some .int, some .int, some .int, some .int, some .int, none, some .boolean, some .int, some .int, some .int, some .int, some .int, none, some .boolean, some .boolean, some .int, some .int, some .int, some .int, some .int, some .int, some .int, some .boolean, some .int, some .long, some .int, some .int, some .long, some .int, some .long, some .int, some .char, some .byte, some .boolean, none, some .char, none, some .int, some .boolean]
def zv_mn (m : Nat) : MethodName := match zv_mns[m]? with
  | some b => b
  | none => x
def zv_mb (m : Nat) : ByteArray := match zv_mbs[m]? with
  | some b => b
  | none => code
def zv_mr (m : Nat) : Option FieldType := match zv_mrs[m]? with
  | some b => b
  | none => none
def zv_gw : List Cond := lw_tbl.filter goodWord
def zv_tys (cA : Nat → ClassId) : List (ClassId × FieldType) := [(cA 0, .int), (cA 1, .long), (cA 2, .byte), (cA 3, .boolean), (cA 4, .object "GuessedPlace$Level"), (cA 5, .array .int), (cA 6, .array .long)]
/-- words that want a state of their own -/
def zv_nw : List Cond := [.fieldLinkNest "GuessedPlace$State" 22 "GuessedPlace" "FIRST_TOLD" "[I" "GuessedPlace", .fieldLinkNest "GuessedPlace$Teller" 112 "GuessedPlace" "LEAST_TOLD" "[I" "GuessedPlace", .fieldLinkNest "GuessedPlace$Teller" 115 "GuessedPlace" "MOST_TOLD" "[I" "GuessedPlace", .methodLinkNest "GuessedPlace" 11 yX9_init "GuessedPlace", .methodLinkNest "GuessedPlace$State" 11 yX4_init "GuessedPlace", .methodLinkNest "GuessedPlace$State" 35 yX0_init "GuessedPlace", .methodLinkNest "GuessedPlace$State" 49 yX6_init "GuessedPlace", .methodLinkNest "GuessedPlace" 25 yX10_init "GuessedPlace", .methodLinkNest "GuessedPlace$Teller" 17 yX4_init "GuessedPlace", .methodLinkNest "GuessedPlace$Cover" 19 yX2_init "GuessedPlace", .methodLinkNest "GuessedPlace$Fit" 9 yX7_init "GuessedPlace", .methodLinkNest "GuessedPlace" 42 yX8_init "GuessedPlace", .methodLinkNest "GuessedPlace$Keys" 28 yX11_lessThan "GuessedPlace", .methodLinkNest "GuessedPlace$Teller" 102 yX11_canBeKey "GuessedPlace", .methodLinkNest "GuessedPlace$State" 85 yX11_lessThan "GuessedPlace", .methodLinkNest "GuessedPlace$Sieve" 62 yX11_canBeKey "GuessedPlace", .castable "[I" "java/lang/Cloneable"]
/-- texts: whose, which entry, the text, its number -/
def zv_sr : List (Nat × Nat × String × Nat) := [(10, 151, "key", 20), (10, 153, "run", 21), (10, 155, "drop", 22), (10, 157, "slack", 23), (10, 159, "upper", 24), (10, 161, "room", 25), (10, 163, "", 26), (12, 141, "key", 20), (12, 147, "run", 21), (12, 149, "drop", 22), (12, 151, "slack", 23), (12, 153, "upper", 24), (12, 155, "room", 25)]
/-- the array of arrays of ty, and its rows -/
def zA2 (ty : FieldType) (U : State) : Prop := ∃ c0 c5 k, U.vm.findClass (FieldType.array ty).toString = some c0 ∧ U.vm.findClass ("[" ++ (FieldType.array ty).toString) = some c5 ∧ U.vm.classes[c5]? = some k ∧ k.kind = .array c0 (.array ty)
/-- what was there before the law, and stays -/
def zG (X : zv_X) (s0 : Nat) (ov : Nat → Value) (U : State) (H : Heap) : Prop :=
  (∀ i : Nat, i < 4 → ∃ t, ov i = .ref t ∧ va_T .int t (zv_old X i).1 (fun j => .int ((zv_old X i).2 j)) (fun q => s0 ≤ q) U H) ∧
  (∀ i : Nat, i < 7 → ∃ t b, ov (20 + i) = .ref t ∧ ov (50 + i) = .ref b ∧ va_O "java/lang/String" t (fun q => s0 ≤ q) U H ∧ va_OF "java/lang/String" "coder" "B" (.int 0) t (fun q => s0 ≤ q) U H ∧ va_OF "java/lang/String" "value" "[B" (.ref b) t (fun q => s0 ≤ q) U H ∧ va_T .byte b (zv_old X (50 + i)).1 (fun j => .int ((zv_old X (50 + i)).2 j)) (fun q => s0 ≤ q) U H) ∧
  (va_Z "GuessedPlace" "FIRST_TOLD" "[I" (ov 1) (fun q => s0 ≤ q) U H ∧ va_Z "GuessedPlace" "LEAST_TOLD" "[I" (ov 2) (fun q => s0 ≤ q) U H ∧ va_Z "GuessedPlace" "MOST_TOLD" "[I" (ov 3) (fun q => s0 ≤ q) U H ∧ va_Z "java/lang/String" "COMPACT_STRINGS" "Z" (.int 1) (fun q => s0 ≤ q) U H ∧ va_Z "jdk/internal/util/Preconditions" "SIOOBE_FORMATTER" "Ljava/util/function/BiFunction;" (ov 90) (fun q => s0 ≤ q) U H) ∧
  (∀ q ∈ zv_sr, ∃ a, ov q.2.2.2 = .ref a ∧ vk_R (zv_cn q.1) q.2.1 q.2.2.1 a U) ∧ (∀ w ∈ zv_nw, va_Nw w U) ∧ va_AO "GuessedPlace$Level" U ∧ zA2 .int U ∧ zA2 .long U ∧
  (∃ t cell, ov 1 = .ref t ∧ ¬ s0 ≤ t ∧ H[t]? = some cell ∧ cell.vm.isStatics = false ∧ cell.vm ≠ .unknown ∧ U.vm.findClass "[I" = some cell.cls ∧ cell.slots.size = 8 ∧ ∀ j, j < 8 → cell.slots[j]? = some (.int ((zv_old X 1).2 j)))
/-- what holds of a frame of the method m, all along -/
def zCx (X : zv_X) (s0 : Nat) (ov : Nat → Value) (cA : Nat → ClassId) (D : va_G) (n0 z0 : Nat) (res : zv_R) (m : Nat) (p : Program) (R : Room) (s : State) (mid : MethodId) (args : Array Value) (meth : Method) (c : Code) : Prop :=
  p.tables.exec = Jvm.exec ∧ c.code = zv_mb m ∧ c.maxLocals = (zv_mi m).1 ∧ s.vm.findClass (zv_cn (zv_mi m).2.2.1) = some mid.cls ∧ (∀ w ∈ zv_gw, w.before args s = true) ∧ meth.sig.returnType = zv_mr m ∧ meth.locks = false ∧ ((zv_mi m).2.2.2.2.2.1 = 2 → meth.name = "<init>") ∧ (zv_mi m).2.2.2.1 ≤ R.frames ∧ (zv_mi m).2.2.2.2.1 ≤ R.locals ∧
  va_K D vwCl (zv_tys cA) s ∧ zG X s0 ov s s.heap ∧ s.heap.size = s0 + n0 ∧ res.2.1.length ≤ n0 + R.cells ∧ zsl res.2.1 ≤ z0 + R.slots ∧ ((∀ i, (ov i).category = 1) ∧ ∀ i, i ≠ 90 → ∃ t, ov i = .ref t)
/-- the machine, at pc with these locals, stack and memory, comes to Q -/
def zW (X : zv_X) (s0 : Nat) (ov : Nat → Value) (cA : Nat → ClassId) (D : va_G) (n0 z0 : Nat) (res : zv_R) (m : Nat) (p : Program) (l : Launch) (e : Env) (R : Room) (s : State) (mid : MethodId) (args : Array Value) (below : List Frame) (meth : Method) (c : Code) (Q : State → Prop) (pc : Nat) (ls : zv_L) (st : List Value) (μ : zv_M) : Prop :=
  (μ.1.length ≤ res.2.1.length ∧ zsl μ.1 ≤ zsl res.2.1) ∧ ∀ (H : Heap) (locs : List Loc) (rl : Array Slot), n0 ≤ μ.1.length → z0 ≤ zsl μ.1 → va_P D vwCl (zws s0 cA μ) H → va_S (fun q => s0 ≤ q) s.heap H locs → lv_has rl (zv_mi m).1 (zal s0 ov ls) → ls.length = (zv_mi m).1 →
    W p l e R s mid args below meth c H locs (μ.1.length - n0) (zsl μ.1 - z0) Q (F0 mid pc rl (st.map (zc s0 ov)))
end
section
section ZS1
variable {X : zv_X} {s0 : Nat} {ov : Nat → Value} {cA : Nat → ClassId} {D : va_G} {n0 z0 : Nat} {res : zv_R} {m : Nat} {p : Program} {l : Launch} {e : Env} {R : Room} {s : State} {mid : MethodId} {args : Array Value} {below : List Frame} {meth : Method} {c : Code} {Q : State → Prop}
variable {pc : Nat} {d : List Nat} {ls : zv_L} {st : List Value} {μ : zv_M} {k : zv_L → List Value → zv_M → Option zv_R}
theorem zs_iadd (C : zCx X s0 ov cA D n0 z0 res m p R s mid args meth c) (hd : decode (zv_mb m) pc = .ok (.iadd, 1)) (h : zv_op X (.iadd) d ls st μ k = some res) (hk : ∀ ls st μ, k ls st μ = some res → zW X s0 ov cA D n0 z0 res m p l e R s mid args below meth c Q (pc + 1) ls st μ) : zW X s0 ov cA D n0 z0 res m p l e R s mid args below meth c Q pc ls st μ := by
  change zv_p2i st (fun x y st => k ls (.int (x + y) :: st) μ) = some res at h
  unfold zv_p2i at h
  split at h
  · rename_i y x st
    have g := hk _ _ _ h
    refine ⟨g.1, fun H locs rl h1 h2 hP hS hl hL => ?_⟩
    exact lv_iadd C.1 C.2.1 hd (g.2 H locs rl h1 h2 hP hS hl hL)
  · cases h
theorem zs_isub (C : zCx X s0 ov cA D n0 z0 res m p R s mid args meth c) (hd : decode (zv_mb m) pc = .ok (.isub, 1)) (h : zv_op X (.isub) d ls st μ k = some res) (hk : ∀ ls st μ, k ls st μ = some res → zW X s0 ov cA D n0 z0 res m p l e R s mid args below meth c Q (pc + 1) ls st μ) : zW X s0 ov cA D n0 z0 res m p l e R s mid args below meth c Q pc ls st μ := by
  change zv_p2i st (fun x y st => k ls (.int (x - y) :: st) μ) = some res at h
  unfold zv_p2i at h
  split at h
  · rename_i y x st
    have g := hk _ _ _ h
    refine ⟨g.1, fun H locs rl h1 h2 hP hS hl hL => ?_⟩
    exact lv_isub C.1 C.2.1 hd (g.2 H locs rl h1 h2 hP hS hl hL)
  · cases h
theorem zs_imul (C : zCx X s0 ov cA D n0 z0 res m p R s mid args meth c) (hd : decode (zv_mb m) pc = .ok (.imul, 1)) (h : zv_op X (.imul) d ls st μ k = some res) (hk : ∀ ls st μ, k ls st μ = some res → zW X s0 ov cA D n0 z0 res m p l e R s mid args below meth c Q (pc + 1) ls st μ) : zW X s0 ov cA D n0 z0 res m p l e R s mid args below meth c Q pc ls st μ := by
  change zv_p2i st (fun x y st => k ls (.int (x * y) :: st) μ) = some res at h
  unfold zv_p2i at h
  split at h
  · rename_i y x st
    have g := hk _ _ _ h
    refine ⟨g.1, fun H locs rl h1 h2 hP hS hl hL => ?_⟩
    exact lv_imul C.1 C.2.1 hd (g.2 H locs rl h1 h2 hP hS hl hL)
  · cases h
theorem zs_iand (C : zCx X s0 ov cA D n0 z0 res m p R s mid args meth c) (hd : decode (zv_mb m) pc = .ok (.iand, 1)) (h : zv_op X (.iand) d ls st μ k = some res) (hk : ∀ ls st μ, k ls st μ = some res → zW X s0 ov cA D n0 z0 res m p l e R s mid args below meth c Q (pc + 1) ls st μ) : zW X s0 ov cA D n0 z0 res m p l e R s mid args below meth c Q pc ls st μ := by
  change zv_p2i st (fun x y st => k ls (.int (x &&& y) :: st) μ) = some res at h
  unfold zv_p2i at h
  split at h
  · rename_i y x st
    have g := hk _ _ _ h
    refine ⟨g.1, fun H locs rl h1 h2 hP hS hl hL => ?_⟩
    exact lv_iand C.1 C.2.1 hd (g.2 H locs rl h1 h2 hP hS hl hL)
  · cases h
theorem zs_ior (C : zCx X s0 ov cA D n0 z0 res m p R s mid args meth c) (hd : decode (zv_mb m) pc = .ok (.ior, 1)) (h : zv_op X (.ior) d ls st μ k = some res) (hk : ∀ ls st μ, k ls st μ = some res → zW X s0 ov cA D n0 z0 res m p l e R s mid args below meth c Q (pc + 1) ls st μ) : zW X s0 ov cA D n0 z0 res m p l e R s mid args below meth c Q pc ls st μ := by
  change zv_p2i st (fun x y st => k ls (.int (x ||| y) :: st) μ) = some res at h
  unfold zv_p2i at h
  split at h
  · rename_i y x st
    have g := hk _ _ _ h
    refine ⟨g.1, fun H locs rl h1 h2 hP hS hl hL => ?_⟩
    exact lv_ior C.1 C.2.1 hd (g.2 H locs rl h1 h2 hP hS hl hL)
  · cases h
theorem zs_ishl (C : zCx X s0 ov cA D n0 z0 res m p R s mid args meth c) (hd : decode (zv_mb m) pc = .ok (.ishl, 1)) (h : zv_op X (.ishl) d ls st μ k = some res) (hk : ∀ ls st μ, k ls st μ = some res → zW X s0 ov cA D n0 z0 res m p l e R s mid args below meth c Q (pc + 1) ls st μ) : zW X s0 ov cA D n0 z0 res m p l e R s mid args below meth c Q pc ls st μ := by
  change zv_p2i st (fun x y st => k ls (.int (x <<< (y &&& 31)) :: st) μ) = some res at h
  unfold zv_p2i at h
  split at h
  · rename_i y x st
    have g := hk _ _ _ h
    refine ⟨g.1, fun H locs rl h1 h2 hP hS hl hL => ?_⟩
    exact lv_ishl C.1 C.2.1 hd (g.2 H locs rl h1 h2 hP hS hl hL)
  · cases h
theorem zs_ishr (C : zCx X s0 ov cA D n0 z0 res m p R s mid args meth c) (hd : decode (zv_mb m) pc = .ok (.ishr, 1)) (h : zv_op X (.ishr) d ls st μ k = some res) (hk : ∀ ls st μ, k ls st μ = some res → zW X s0 ov cA D n0 z0 res m p l e R s mid args below meth c Q (pc + 1) ls st μ) : zW X s0 ov cA D n0 z0 res m p l e R s mid args below meth c Q pc ls st μ := by
  change zv_p2i st (fun x y st => k ls (.int (x >>> (y &&& 31)) :: st) μ) = some res at h
  unfold zv_p2i at h
  split at h
  · rename_i y x st
    have g := hk _ _ _ h
    refine ⟨g.1, fun H locs rl h1 h2 hP hS hl hL => ?_⟩
    exact lv_ishr C.1 C.2.1 hd (g.2 H locs rl h1 h2 hP hS hl hL)
  · cases h
theorem zs_ladd (C : zCx X s0 ov cA D n0 z0 res m p R s mid args meth c) (hd : decode (zv_mb m) pc = .ok (.ladd, 1)) (h : zv_op X (.ladd) d ls st μ k = some res) (hk : ∀ ls st μ, k ls st μ = some res → zW X s0 ov cA D n0 z0 res m p l e R s mid args below meth c Q (pc + 1) ls st μ) : zW X s0 ov cA D n0 z0 res m p l e R s mid args below meth c Q pc ls st μ := by
  change zv_p2l st (fun x y st => k ls (.long (x + y) :: st) μ) = some res at h
  unfold zv_p2l at h
  split at h
  · rename_i y x st
    have g := hk _ _ _ h
    refine ⟨g.1, fun H locs rl h1 h2 hP hS hl hL => ?_⟩
    exact lv_ladd C.1 C.2.1 hd (g.2 H locs rl h1 h2 hP hS hl hL)
  · cases h
theorem zs_lsub (C : zCx X s0 ov cA D n0 z0 res m p R s mid args meth c) (hd : decode (zv_mb m) pc = .ok (.lsub, 1)) (h : zv_op X (.lsub) d ls st μ k = some res) (hk : ∀ ls st μ, k ls st μ = some res → zW X s0 ov cA D n0 z0 res m p l e R s mid args below meth c Q (pc + 1) ls st μ) : zW X s0 ov cA D n0 z0 res m p l e R s mid args below meth c Q pc ls st μ := by
  change zv_p2l st (fun x y st => k ls (.long (x - y) :: st) μ) = some res at h
  unfold zv_p2l at h
  split at h
  · rename_i y x st
    have g := hk _ _ _ h
    refine ⟨g.1, fun H locs rl h1 h2 hP hS hl hL => ?_⟩
    exact lv_lsub C.1 C.2.1 hd (g.2 H locs rl h1 h2 hP hS hl hL)
  · cases h
theorem zs_lmul (C : zCx X s0 ov cA D n0 z0 res m p R s mid args meth c) (hd : decode (zv_mb m) pc = .ok (.lmul, 1)) (h : zv_op X (.lmul) d ls st μ k = some res) (hk : ∀ ls st μ, k ls st μ = some res → zW X s0 ov cA D n0 z0 res m p l e R s mid args below meth c Q (pc + 1) ls st μ) : zW X s0 ov cA D n0 z0 res m p l e R s mid args below meth c Q pc ls st μ := by
  change zv_p2l st (fun x y st => k ls (.long (x * y) :: st) μ) = some res at h
  unfold zv_p2l at h
  split at h
  · rename_i y x st
    have g := hk _ _ _ h
    refine ⟨g.1, fun H locs rl h1 h2 hP hS hl hL => ?_⟩
    exact lv_lmul C.1 C.2.1 hd (g.2 H locs rl h1 h2 hP hS hl hL)
  · cases h
theorem zs_lxor (C : zCx X s0 ov cA D n0 z0 res m p R s mid args meth c) (hd : decode (zv_mb m) pc = .ok (.lxor, 1)) (h : zv_op X (.lxor) d ls st μ k = some res) (hk : ∀ ls st μ, k ls st μ = some res → zW X s0 ov cA D n0 z0 res m p l e R s mid args below meth c Q (pc + 1) ls st μ) : zW X s0 ov cA D n0 z0 res m p l e R s mid args below meth c Q pc ls st μ := by
  change zv_p2l st (fun x y st => k ls (.long (x ^^^ y) :: st) μ) = some res at h
  unfold zv_p2l at h
  split at h
  · rename_i y x st
    have g := hk _ _ _ h
    refine ⟨g.1, fun H locs rl h1 h2 hP hS hl hL => ?_⟩
    exact lv_lxor C.1 C.2.1 hd (g.2 H locs rl h1 h2 hP hS hl hL)
  · cases h
theorem zs_lcmp (C : zCx X s0 ov cA D n0 z0 res m p R s mid args meth c) (hd : decode (zv_mb m) pc = .ok (.lcmp, 1)) (h : zv_op X (.lcmp) d ls st μ k = some res) (hk : ∀ ls st μ, k ls st μ = some res → zW X s0 ov cA D n0 z0 res m p l e R s mid args below meth c Q (pc + 1) ls st μ) : zW X s0 ov cA D n0 z0 res m p l e R s mid args below meth c Q pc ls st μ := by
  change zv_p2l st (fun x y st => k ls (.int (lg_cmp x y) :: st) μ) = some res at h
  unfold zv_p2l at h
  split at h
  · rename_i y x st
    have g := hk _ _ _ h
    refine ⟨g.1, fun H locs rl h1 h2 hP hS hl hL => ?_⟩
    exact W.lcmp C.1 C.2.1 hd (g.2 H locs rl h1 h2 hP hS hl hL)
  · cases h
theorem zs_idiv (C : zCx X s0 ov cA D n0 z0 res m p R s mid args meth c) (hd : decode (zv_mb m) pc = .ok (.idiv, 1)) (h : zv_op X (.idiv) d ls st μ k = some res) (hk : ∀ ls st μ, k ls st μ = some res → zW X s0 ov cA D n0 z0 res m p l e R s mid args below meth c Q (pc + 1) ls st μ) : zW X s0 ov cA D n0 z0 res m p l e R s mid args below meth c Q pc ls st μ := by
  change zv_p2i st (fun x y st => if y = 0 then none else k ls (.int (x / y) :: st) μ) = some res at h
  unfold zv_p2i at h
  split at h
  · rename_i y x st
    dsimp only at h
    split at h
    · cases h
    rename_i hne
    have g := hk _ _ _ h
    refine ⟨g.1, fun H locs rl h1 h2 hP hS hl hL => ?_⟩
    exact lv_idiv C.1 C.2.1 hd hne (g.2 H locs rl h1 h2 hP hS hl hL)
  · cases h
theorem zs_irem (C : zCx X s0 ov cA D n0 z0 res m p R s mid args meth c) (hd : decode (zv_mb m) pc = .ok (.irem, 1)) (h : zv_op X (.irem) d ls st μ k = some res) (hk : ∀ ls st μ, k ls st μ = some res → zW X s0 ov cA D n0 z0 res m p l e R s mid args below meth c Q (pc + 1) ls st μ) : zW X s0 ov cA D n0 z0 res m p l e R s mid args below meth c Q pc ls st μ := by
  change zv_p2i st (fun x y st => if y = 0 then none else k ls (.int (x - x / y * y) :: st) μ) = some res at h
  unfold zv_p2i at h
  split at h
  · rename_i y x st
    dsimp only at h
    split at h
    · cases h
    rename_i hne
    have g := hk _ _ _ h
    refine ⟨g.1, fun H locs rl h1 h2 hP hS hl hL => ?_⟩
    exact lv_irem C.1 C.2.1 hd hne (g.2 H locs rl h1 h2 hP hS hl hL)
  · cases h
theorem zs_ldiv (C : zCx X s0 ov cA D n0 z0 res m p R s mid args meth c) (hd : decode (zv_mb m) pc = .ok (.ldiv, 1)) (h : zv_op X (.ldiv) d ls st μ k = some res) (hk : ∀ ls st μ, k ls st μ = some res → zW X s0 ov cA D n0 z0 res m p l e R s mid args below meth c Q (pc + 1) ls st μ) : zW X s0 ov cA D n0 z0 res m p l e R s mid args below meth c Q pc ls st μ := by
  change zv_p2l st (fun x y st => if y = 0 then none else k ls (.long (x / y) :: st) μ) = some res at h
  unfold zv_p2l at h
  split at h
  · rename_i y x st
    dsimp only at h
    split at h
    · cases h
    rename_i hne
    have g := hk _ _ _ h
    refine ⟨g.1, fun H locs rl h1 h2 hP hS hl hL => ?_⟩
    exact lv_ldiv C.1 C.2.1 hd hne (g.2 H locs rl h1 h2 hP hS hl hL)
  · cases h
theorem zs_lrem (C : zCx X s0 ov cA D n0 z0 res m p R s mid args meth c) (hd : decode (zv_mb m) pc = .ok (.lrem, 1)) (h : zv_op X (.lrem) d ls st μ k = some res) (hk : ∀ ls st μ, k ls st μ = some res → zW X s0 ov cA D n0 z0 res m p l e R s mid args below meth c Q (pc + 1) ls st μ) : zW X s0 ov cA D n0 z0 res m p l e R s mid args below meth c Q pc ls st μ := by
  change zv_p2l st (fun x y st => if y = 0 then none else k ls (.long (x - x / y * y) :: st) μ) = some res at h
  unfold zv_p2l at h
  split at h
  · rename_i y x st
    dsimp only at h
    split at h
    · cases h
    rename_i hne
    have g := hk _ _ _ h
    refine ⟨g.1, fun H locs rl h1 h2 hP hS hl hL => ?_⟩
    exact lv_lrem C.1 C.2.1 hd hne (g.2 H locs rl h1 h2 hP hS hl hL)
  · cases h
theorem zs_ineg (C : zCx X s0 ov cA D n0 z0 res m p R s mid args meth c) (hd : decode (zv_mb m) pc = .ok (.ineg, 1)) (h : zv_op X (.ineg) d ls st μ k = some res) (hk : ∀ ls st μ, k ls st μ = some res → zW X s0 ov cA D n0 z0 res m p l e R s mid args below meth c Q (pc + 1) ls st μ) : zW X s0 ov cA D n0 z0 res m p l e R s mid args below meth c Q pc ls st μ := by
  change zv_p1i st (fun x st => k ls (.int (-x) :: st) μ) = some res at h
  unfold zv_p1i at h
  split at h
  · rename_i x st
    have g := hk _ _ _ h
    refine ⟨g.1, fun H locs rl h1 h2 hP hS hl hL => ?_⟩
    exact lv_ineg C.1 C.2.1 hd (g.2 H locs rl h1 h2 hP hS hl hL)
  · cases h
theorem zs_i2l (C : zCx X s0 ov cA D n0 z0 res m p R s mid args meth c) (hd : decode (zv_mb m) pc = .ok (.i2l, 1)) (h : zv_op X (.i2l) d ls st μ k = some res) (hk : ∀ ls st μ, k ls st μ = some res → zW X s0 ov cA D n0 z0 res m p l e R s mid args below meth c Q (pc + 1) ls st μ) : zW X s0 ov cA D n0 z0 res m p l e R s mid args below meth c Q pc ls st μ := by
  change zv_p1i st (fun x st => k ls (.long x.toInt64 :: st) μ) = some res at h
  unfold zv_p1i at h
  split at h
  · rename_i x st
    have g := hk _ _ _ h
    refine ⟨g.1, fun H locs rl h1 h2 hP hS hl hL => ?_⟩
    exact lv_i2l C.1 C.2.1 hd rfl (g.2 H locs rl h1 h2 hP hS hl hL)
  · cases h
theorem zs_i2b (C : zCx X s0 ov cA D n0 z0 res m p R s mid args meth c) (hd : decode (zv_mb m) pc = .ok (.i2b, 1)) (h : zv_op X (.i2b) d ls st μ k = some res) (hk : ∀ ls st μ, k ls st μ = some res → zW X s0 ov cA D n0 z0 res m p l e R s mid args below meth c Q (pc + 1) ls st μ) : zW X s0 ov cA D n0 z0 res m p l e R s mid args below meth c Q pc ls st μ := by
  change zv_p1i st (fun x st => k ls (.int x.toInt8.toInt32 :: st) μ) = some res at h
  unfold zv_p1i at h
  split at h
  · rename_i x st
    have g := hk _ _ _ h
    refine ⟨g.1, fun H locs rl h1 h2 hP hS hl hL => ?_⟩
    exact lv_i2b C.1 C.2.1 hd rfl (g.2 H locs rl h1 h2 hP hS hl hL)
  · cases h
theorem zs_i2c (C : zCx X s0 ov cA D n0 z0 res m p R s mid args meth c) (hd : decode (zv_mb m) pc = .ok (.i2c, 1)) (h : zv_op X (.i2c) d ls st μ k = some res) (hk : ∀ ls st μ, k ls st μ = some res → zW X s0 ov cA D n0 z0 res m p l e R s mid args below meth c Q (pc + 1) ls st μ) : zW X s0 ov cA D n0 z0 res m p l e R s mid args below meth c Q pc ls st μ := by
  change zv_p1i st (fun x st => k ls (.int (x.toUInt32 % 65536).toInt32 :: st) μ) = some res at h
  unfold zv_p1i at h
  split at h
  · rename_i x st
    have g := hk _ _ _ h
    refine ⟨g.1, fun H locs rl h1 h2 hP hS hl hL => ?_⟩
    exact lv_i2c C.1 C.2.1 hd rfl (g.2 H locs rl h1 h2 hP hS hl hL)
  · cases h
theorem zs_lneg (C : zCx X s0 ov cA D n0 z0 res m p R s mid args meth c) (hd : decode (zv_mb m) pc = .ok (.lneg, 1)) (h : zv_op X (.lneg) d ls st μ k = some res) (hk : ∀ ls st μ, k ls st μ = some res → zW X s0 ov cA D n0 z0 res m p l e R s mid args below meth c Q (pc + 1) ls st μ) : zW X s0 ov cA D n0 z0 res m p l e R s mid args below meth c Q pc ls st μ := by
  change zv_p1l st (fun x st => k ls (.long (-x) :: st) μ) = some res at h
  unfold zv_p1l at h
  split at h
  · rename_i x st
    have g := hk _ _ _ h
    refine ⟨g.1, fun H locs rl h1 h2 hP hS hl hL => ?_⟩
    exact lv_lneg C.1 C.2.1 hd (g.2 H locs rl h1 h2 hP hS hl hL)
  · cases h
theorem zs_l2i (C : zCx X s0 ov cA D n0 z0 res m p R s mid args meth c) (hd : decode (zv_mb m) pc = .ok (.l2i, 1)) (h : zv_op X (.l2i) d ls st μ k = some res) (hk : ∀ ls st μ, k ls st μ = some res → zW X s0 ov cA D n0 z0 res m p l e R s mid args below meth c Q (pc + 1) ls st μ) : zW X s0 ov cA D n0 z0 res m p l e R s mid args below meth c Q pc ls st μ := by
  change zv_p1l st (fun x st => k ls (.int x.toInt32 :: st) μ) = some res at h
  unfold zv_p1l at h
  split at h
  · rename_i x st
    have g := hk _ _ _ h
    refine ⟨g.1, fun H locs rl h1 h2 hP hS hl hL => ?_⟩
    exact lv_l2i C.1 C.2.1 hd rfl (g.2 H locs rl h1 h2 hP hS hl hL)
  · cases h
theorem zs_iconst (C : zCx X s0 ov cA D n0 z0 res m p R s mid args meth c) {n : Int} (hd : decode (zv_mb m) pc = .ok (.iconst n, 1)) (h : zv_op X (.iconst n) d ls st μ k = some res) (hk : ∀ ls st μ, k ls st μ = some res → zW X s0 ov cA D n0 z0 res m p l e R s mid args below meth c Q (pc + 1) ls st μ) : zW X s0 ov cA D n0 z0 res m p l e R s mid args below meth c Q pc ls st μ := by
  · replace h : k ls (_ :: st) μ = some res := h
    have g := hk _ _ _ h
    refine ⟨g.1, fun H locs rl h1 h2 hP hS hl hL => ?_⟩
    exact lv_iconst C.1 C.2.1 hd rfl (g.2 H locs rl h1 h2 hP hS hl hL)
theorem zs_bipush (C : zCx X s0 ov cA D n0 z0 res m p R s mid args meth c) {n : Int} (hd : decode (zv_mb m) pc = .ok (.bipush n, 2)) (h : zv_op X (.bipush n) d ls st μ k = some res) (hk : ∀ ls st μ, k ls st μ = some res → zW X s0 ov cA D n0 z0 res m p l e R s mid args below meth c Q (pc + 2) ls st μ) : zW X s0 ov cA D n0 z0 res m p l e R s mid args below meth c Q pc ls st μ := by
  · replace h : k ls (_ :: st) μ = some res := h
    have g := hk _ _ _ h
    refine ⟨g.1, fun H locs rl h1 h2 hP hS hl hL => ?_⟩
    exact lv_bipush C.1 C.2.1 hd rfl (g.2 H locs rl h1 h2 hP hS hl hL)
theorem zs_sipush (C : zCx X s0 ov cA D n0 z0 res m p R s mid args meth c) {n : Int} (hd : decode (zv_mb m) pc = .ok (.sipush n, 3)) (h : zv_op X (.sipush n) d ls st μ k = some res) (hk : ∀ ls st μ, k ls st μ = some res → zW X s0 ov cA D n0 z0 res m p l e R s mid args below meth c Q (pc + 3) ls st μ) : zW X s0 ov cA D n0 z0 res m p l e R s mid args below meth c Q pc ls st μ := by
  · replace h : k ls (_ :: st) μ = some res := h
    have g := hk _ _ _ h
    refine ⟨g.1, fun H locs rl h1 h2 hP hS hl hL => ?_⟩
    exact lv_sipush C.1 C.2.1 hd rfl (g.2 H locs rl h1 h2 hP hS hl hL)
theorem zs_lconst (C : zCx X s0 ov cA D n0 z0 res m p R s mid args meth c) {n : Fin 2} (hd : decode (zv_mb m) pc = .ok (.lconst n, 1)) (h : zv_op X (.lconst n) d ls st μ k = some res) (hk : ∀ ls st μ, k ls st μ = some res → zW X s0 ov cA D n0 z0 res m p l e R s mid args below meth c Q (pc + 1) ls st μ) : zW X s0 ov cA D n0 z0 res m p l e R s mid args below meth c Q pc ls st μ := by
  · replace h : k ls (_ :: st) μ = some res := h
    have g := hk _ _ _ h
    refine ⟨g.1, fun H locs rl h1 h2 hP hS hl hL => ?_⟩
    exact lv_lconst C.1 C.2.1 hd rfl (g.2 H locs rl h1 h2 hP hS hl hL)
theorem zs_iload_n (C : zCx X s0 ov cA D n0 z0 res m p R s mid args meth c) {n : Fin 4} (hd : decode (zv_mb m) pc = .ok (.iload_n n, 1)) (h : zv_op X (.iload_n n) d ls st μ k = some res) (hk : ∀ ls st μ, k ls st μ = some res → zW X s0 ov cA D n0 z0 res m p l e R s mid args below meth c Q (pc + 1) ls st μ) : zW X s0 ov cA D n0 z0 res m p l e R s mid args below meth c Q pc ls st μ := by
  change zv_ldi ls n (fun x => k ls (.int x :: st) μ) = some res at h
  unfold zv_ldi at h
  split at h
  · rename_i x hx
    have g := hk _ _ _ h
    refine ⟨g.1, fun H locs rl h1 h2 hP hS hl hL => ?_⟩
    exact lv_iload_n C.1 C.2.1 hd rfl (zal_at hl hx) (g.2 H locs rl h1 h2 hP hS hl hL)
  · cases h
theorem zs_iload (C : zCx X s0 ov cA D n0 z0 res m p R s mid args meth c) {n : Nat} (hd : decode (zv_mb m) pc = .ok (.iload n, 2)) (h : zv_op X (.iload n) d ls st μ k = some res) (hk : ∀ ls st μ, k ls st μ = some res → zW X s0 ov cA D n0 z0 res m p l e R s mid args below meth c Q (pc + 2) ls st μ) : zW X s0 ov cA D n0 z0 res m p l e R s mid args below meth c Q pc ls st μ := by
  change zv_ldi ls n (fun x => k ls (.int x :: st) μ) = some res at h
  unfold zv_ldi at h
  split at h
  · rename_i x hx
    have g := hk _ _ _ h
    refine ⟨g.1, fun H locs rl h1 h2 hP hS hl hL => ?_⟩
    exact lv_iload C.1 C.2.1 hd (zal_at hl hx) (g.2 H locs rl h1 h2 hP hS hl hL)
  · cases h
theorem zs_lload_n (C : zCx X s0 ov cA D n0 z0 res m p R s mid args meth c) {n : Fin 4} (hd : decode (zv_mb m) pc = .ok (.lload_n n, 1)) (h : zv_op X (.lload_n n) d ls st μ k = some res) (hk : ∀ ls st μ, k ls st μ = some res → zW X s0 ov cA D n0 z0 res m p l e R s mid args below meth c Q (pc + 1) ls st μ) : zW X s0 ov cA D n0 z0 res m p l e R s mid args below meth c Q pc ls st μ := by
  change zv_ldl ls n (fun x => k ls (.long x :: st) μ) = some res at h
  unfold zv_ldl at h
  split at h
  · rename_i x hx
    have g := hk _ _ _ h
    refine ⟨g.1, fun H locs rl h1 h2 hP hS hl hL => ?_⟩
    exact lv_lload_n C.1 C.2.1 hd rfl (zal_at hl hx) (g.2 H locs rl h1 h2 hP hS hl hL)
  · cases h
theorem zs_lload (C : zCx X s0 ov cA D n0 z0 res m p R s mid args meth c) {n : Nat} (hd : decode (zv_mb m) pc = .ok (.lload n, 2)) (h : zv_op X (.lload n) d ls st μ k = some res) (hk : ∀ ls st μ, k ls st μ = some res → zW X s0 ov cA D n0 z0 res m p l e R s mid args below meth c Q (pc + 2) ls st μ) : zW X s0 ov cA D n0 z0 res m p l e R s mid args below meth c Q pc ls st μ := by
  change zv_ldl ls n (fun x => k ls (.long x :: st) μ) = some res at h
  unfold zv_ldl at h
  split at h
  · rename_i x hx
    have g := hk _ _ _ h
    refine ⟨g.1, fun H locs rl h1 h2 hP hS hl hL => ?_⟩
    exact lv_lload C.1 C.2.1 hd (zal_at hl hx) (g.2 H locs rl h1 h2 hP hS hl hL)
  · cases h
theorem zs_aload_n (C : zCx X s0 ov cA D n0 z0 res m p R s mid args meth c) {n : Fin 4} (hd : decode (zv_mb m) pc = .ok (.aload_n n, 1)) (h : zv_op X (.aload_n n) d ls st μ k = some res) (hk : ∀ ls st μ, k ls st μ = some res → zW X s0 ov cA D n0 z0 res m p l e R s mid args below meth c Q (pc + 1) ls st μ) : zW X s0 ov cA D n0 z0 res m p l e R s mid args below meth c Q pc ls st μ := by
  change zv_lda ls n (fun x => k ls (x :: st) μ) = some res at h
  unfold zv_lda at h
  split at h
  · rename_i x hx
    have g := hk _ _ _ h
    refine ⟨g.1, fun H locs rl h1 h2 hP hS hl hL => ?_⟩
    exact lv_aload_n C.1 C.2.1 hd rfl (zal_at hl hx) (g.2 H locs rl h1 h2 hP hS hl hL)
  · rename_i x hx
    split at h
    · cases h
    rename_i hne
    have g := hk _ _ _ h
    refine ⟨g.1, fun H locs rl h1 h2 hP hS hl hL => ?_⟩
    obtain ⟨t, ht⟩ := C.2.2.2.2.2.2.2.2.2.2.2.2.2.2.2.2 x hne
    have g1 := zal_at hl hx
    have g2 := g.2 H locs rl h1 h2 hP hS hl hL
    simp only [zc, ht, List.map_cons] at g1 g2
    exact lv_aload_n C.1 C.2.1 hd rfl g1 g2
  · cases h
theorem zs_aload (C : zCx X s0 ov cA D n0 z0 res m p R s mid args meth c) {n : Nat} (hd : decode (zv_mb m) pc = .ok (.aload n, 2)) (h : zv_op X (.aload n) d ls st μ k = some res) (hk : ∀ ls st μ, k ls st μ = some res → zW X s0 ov cA D n0 z0 res m p l e R s mid args below meth c Q (pc + 2) ls st μ) : zW X s0 ov cA D n0 z0 res m p l e R s mid args below meth c Q pc ls st μ := by
  change zv_lda ls n (fun x => k ls (x :: st) μ) = some res at h
  unfold zv_lda at h
  split at h
  · rename_i x hx
    have g := hk _ _ _ h
    refine ⟨g.1, fun H locs rl h1 h2 hP hS hl hL => ?_⟩
    exact lv_aload C.1 C.2.1 hd (zal_at hl hx) (g.2 H locs rl h1 h2 hP hS hl hL)
  · rename_i x hx
    split at h
    · cases h
    rename_i hne
    have g := hk _ _ _ h
    refine ⟨g.1, fun H locs rl h1 h2 hP hS hl hL => ?_⟩
    obtain ⟨t, ht⟩ := C.2.2.2.2.2.2.2.2.2.2.2.2.2.2.2.2 x hne
    have g1 := zal_at hl hx
    have g2 := g.2 H locs rl h1 h2 hP hS hl hL
    simp only [zc, ht, List.map_cons] at g1 g2
    exact lv_aload C.1 C.2.1 hd g1 g2
  · cases h
theorem zst_mem {ls : zv_L} {i j : Nat} {w v : Value} (hi : i < ls.length) (h : (zv_st ls i w)[j]? = some (some v)) : (j = i ∧ v = w) ∨ (j ≠ i ∧ ls[j]? = some (some v) ∧ ¬ (j + 1 = i ∧ v.category = 2)) := by
  unfold zv_st at h
  have hlen : (zv_clr ls i).length = ls.length := by
    unfold zv_clr
    split
    · rfl
    · split
      · split
        · simp
        · rfl
      · rfl
  by_cases hj : j = i
  · subst hj
    rw [List.getElem?_set_self (by rw [hlen]; exact hi)] at h
    exact Or.inl ⟨rfl, (Option.some.inj (Option.some.inj h)).symm⟩
  · rw [List.getElem?_set_ne (Ne.symm hj)] at h
    refine Or.inr ⟨hj, ?_⟩
    unfold zv_clr at h
    split at h
    · exact ⟨h, fun q => by omega⟩
    · rename_i i'
      split at h
      · rename_i u hu
        split at h
        · rename_i hc
          by_cases hk : i' = j
          · subst hk
            rw [List.getElem?_set_self (by omega)] at h
            cases h
          · rw [List.getElem?_set_ne hk] at h
            exact ⟨h, fun q => hk (by omega)⟩
        · rename_i hc
          refine ⟨h, fun q => ?_⟩
          have e : j = i' := by omega
          subst e
          rw [hu] at h
          cases h
          exact hc q.2
      · rename_i hu
        refine ⟨h, fun q => ?_⟩
        have e : j = i' := by omega
        subst e
        exact hu v h
theorem zst_len {ls : zv_L} {i : Nat} {w : Value} : (zv_st ls i w).length = ls.length := by
  unfold zv_st zv_clr
  rw [List.length_set]
  split
  · rfl
  · split
    · split
      · simp
      · rfl
    · rfl
theorem zst2_mem {ls : zv_L} {i j : Nat} {w v : Value} (hi : i + 1 < ls.length) (h : (zv_st2 ls i w)[j]? = some (some v)) : (j = i ∧ v = w) ∨ (j ≠ i ∧ j ≠ i + 1 ∧ ls[j]? = some (some v) ∧ ¬ (j + 1 = i ∧ v.category = 2)) := by
  have hlen : (zv_st ls i w).length = ls.length := zst_len
  have e : zv_st2 ls i w = (zv_st ls i w).set (i + 1) none := rfl
  rw [e] at h
  by_cases hj : j = i + 1
  · subst hj
    rw [List.getElem?_set_self (by omega)] at h
    cases h
  · rw [List.getElem?_set_ne (Ne.symm hj)] at h
    rcases zst_mem (by omega) h with q | q
    · exact Or.inl q
    · exact Or.inr ⟨q.1, hj, q.2.1, q.2.2⟩
theorem zst2_len {ls : zv_L} {i : Nat} {w : Value} : (zv_st2 ls i w).length = ls.length := by
  have e : zv_st2 ls i w = (zv_st ls i w).set (i + 1) none := rfl
  rw [e, List.length_set, zst_len]
theorem zst_has {s0 : Nat} {ov : Nat → Value} (ho : ∀ i, (ov i).category = 1) {ls : zv_L} {i nL : Nat} {w : Value} {rl : Array Slot} (hi : i < ls.length) (h : lv_has rl nL ((i, zc s0 ov w) :: (zal s0 ov ls).filter (fun q => !(q.1 == i) && !(q.1 + 1 == i && q.2.category == 2)))) : lv_has rl nL (zal s0 ov (zv_st ls i w)) := by
  refine zal_sub h (fun j v hv => ?_)
  rcases zst_mem hi hv with ⟨rfl, rfl⟩ | ⟨q1, q2, q3⟩
  · exact List.mem_cons_self
  · refine List.mem_cons_of_mem _ (List.mem_filter.mpr ⟨zal_mem.mpr ⟨v, q2, rfl⟩, ?_⟩)
    simp only [zc_cat ho]
    simp only [Bool.and_eq_true, Bool.not_eq_true', beq_eq_false_iff_ne, Bool.and_eq_false_iff]
    refine ⟨q1, ?_⟩
    by_cases h9 : j + 1 = i
    · exact Or.inr (fun q => q3 ⟨h9, q⟩)
    · exact Or.inl h9
theorem zst2_has {s0 : Nat} {ov : Nat → Value} (ho : ∀ i, (ov i).category = 1) {ls : zv_L} {i nL : Nat} {w : Value} {rl : Array Slot} (hi : i + 1 < ls.length) (h : lv_has rl nL ((i, zc s0 ov w) :: (zal s0 ov ls).filter (fun q => !(q.1 == i) && (!(q.1 == i + 1) && !(q.1 + 1 == i && q.2.category == 2))))) : lv_has rl nL (zal s0 ov (zv_st2 ls i w)) := by
  refine zal_sub h (fun j v hv => ?_)
  rcases zst2_mem hi hv with ⟨rfl, rfl⟩ | ⟨q1, q0, q2, q3⟩
  · exact List.mem_cons_self
  · refine List.mem_cons_of_mem _ (List.mem_filter.mpr ⟨zal_mem.mpr ⟨v, q2, rfl⟩, ?_⟩)
    simp only [zc_cat ho]
    simp only [Bool.and_eq_true, Bool.not_eq_true', beq_eq_false_iff_ne, Bool.and_eq_false_iff]
    refine ⟨q1, q0, ?_⟩
    by_cases h9 : j + 1 = i
    · exact Or.inr (fun q => q3 ⟨h9, q⟩)
    · exact Or.inl h9
theorem zs_istore_n (C : zCx X s0 ov cA D n0 z0 res m p R s mid args meth c) {n : Fin 4} (hd : decode (zv_mb m) pc = .ok (.istore_n n, 1)) (h : zv_op X (.istore_n n) d ls st μ k = some res) (hk : ∀ ls st μ, k ls st μ = some res → zW X s0 ov cA D n0 z0 res m p l e R s mid args below meth c Q (pc + 1) ls st μ) : zW X s0 ov cA D n0 z0 res m p l e R s mid args below meth c Q pc ls st μ := by
  change zv_p1i st (fun x st => zv_sto ls n (.int x) (fun ls => k ls st μ)) = some res at h
  unfold zv_p1i at h
  split at h
  · rename_i x st
    dsimp only at h
    unfold zv_sto at h
    split at h
    · rename_i hn
      have g := hk _ _ _ h
      refine ⟨g.1, fun H locs rl h1 h2 hP hS hl hL => ?_⟩
      exact lv_istore_n C.1 C.2.1 hd rfl hl (by rw [← hL]; exact hn) rfl (fun rl' hl' => g.2 H locs rl' h1 h2 hP hS (zst_has C.2.2.2.2.2.2.2.2.2.2.2.2.2.2.2.1 hn hl') (by rw [zst_len]; exact hL))
    · cases h
  · cases h
theorem zs_istore (C : zCx X s0 ov cA D n0 z0 res m p R s mid args meth c) {n : Nat} (hd : decode (zv_mb m) pc = .ok (.istore n, 2)) (h : zv_op X (.istore n) d ls st μ k = some res) (hk : ∀ ls st μ, k ls st μ = some res → zW X s0 ov cA D n0 z0 res m p l e R s mid args below meth c Q (pc + 2) ls st μ) : zW X s0 ov cA D n0 z0 res m p l e R s mid args below meth c Q pc ls st μ := by
  change zv_p1i st (fun x st => zv_sto ls n (.int x) (fun ls => k ls st μ)) = some res at h
  unfold zv_p1i at h
  split at h
  · rename_i x st
    dsimp only at h
    unfold zv_sto at h
    split at h
    · rename_i hn
      have g := hk _ _ _ h
      refine ⟨g.1, fun H locs rl h1 h2 hP hS hl hL => ?_⟩
      exact lv_istore C.1 C.2.1 hd hl (by rw [← hL]; exact hn) rfl (fun rl' hl' => g.2 H locs rl' h1 h2 hP hS (zst_has C.2.2.2.2.2.2.2.2.2.2.2.2.2.2.2.1 hn hl') (by rw [zst_len]; exact hL))
    · cases h
  · cases h
theorem zs_lstore_n (C : zCx X s0 ov cA D n0 z0 res m p R s mid args meth c) {n : Fin 4} (hd : decode (zv_mb m) pc = .ok (.lstore_n n, 1)) (h : zv_op X (.lstore_n n) d ls st μ k = some res) (hk : ∀ ls st μ, k ls st μ = some res → zW X s0 ov cA D n0 z0 res m p l e R s mid args below meth c Q (pc + 1) ls st μ) : zW X s0 ov cA D n0 z0 res m p l e R s mid args below meth c Q pc ls st μ := by
  change zv_p1l st (fun x st => zv_sto2 ls n (.long x) (fun ls => k ls st μ)) = some res at h
  unfold zv_p1l at h
  split at h
  · rename_i x st
    dsimp only at h
    unfold zv_sto2 at h
    split at h
    · rename_i hn
      have g := hk _ _ _ h
      refine ⟨g.1, fun H locs rl h1 h2 hP hS hl hL => ?_⟩
      exact lv_lstore_n C.1 C.2.1 hd rfl hl (by rw [← hL]; exact hn) rfl (fun rl' hl' => g.2 H locs rl' h1 h2 hP hS (zst2_has C.2.2.2.2.2.2.2.2.2.2.2.2.2.2.2.1 hn hl') (by rw [zst2_len]; exact hL))
    · cases h
  · cases h
theorem zs_lstore (C : zCx X s0 ov cA D n0 z0 res m p R s mid args meth c) {n : Nat} (hd : decode (zv_mb m) pc = .ok (.lstore n, 2)) (h : zv_op X (.lstore n) d ls st μ k = some res) (hk : ∀ ls st μ, k ls st μ = some res → zW X s0 ov cA D n0 z0 res m p l e R s mid args below meth c Q (pc + 2) ls st μ) : zW X s0 ov cA D n0 z0 res m p l e R s mid args below meth c Q pc ls st μ := by
  change zv_p1l st (fun x st => zv_sto2 ls n (.long x) (fun ls => k ls st μ)) = some res at h
  unfold zv_p1l at h
  split at h
  · rename_i x st
    dsimp only at h
    unfold zv_sto2 at h
    split at h
    · rename_i hn
      have g := hk _ _ _ h
      refine ⟨g.1, fun H locs rl h1 h2 hP hS hl hL => ?_⟩
      exact lv_lstore C.1 C.2.1 hd hl (by rw [← hL]; exact hn) rfl (fun rl' hl' => g.2 H locs rl' h1 h2 hP hS (zst2_has C.2.2.2.2.2.2.2.2.2.2.2.2.2.2.2.1 hn hl') (by rw [zst2_len]; exact hL))
    · cases h
  · cases h
theorem zs_astore_n (C : zCx X s0 ov cA D n0 z0 res m p R s mid args meth c) {n : Fin 4} (hd : decode (zv_mb m) pc = .ok (.astore_n n, 1)) (h : zv_op X (.astore_n n) d ls st μ k = some res) (hk : ∀ ls st μ, k ls st μ = some res → zW X s0 ov cA D n0 z0 res m p l e R s mid args below meth c Q (pc + 1) ls st μ) : zW X s0 ov cA D n0 z0 res m p l e R s mid args below meth c Q pc ls st μ := by
  change zv_p1a st (fun x st => zv_sto ls n x (fun ls => k ls st μ)) = some res at h
  unfold zv_p1a at h
  split at h
  · rename_i x st
    dsimp only at h
    unfold zv_sto at h
    split at h
    · rename_i hn
      have g := hk _ _ _ h
      refine ⟨g.1, fun H locs rl h1 h2 hP hS hl hL => ?_⟩
      exact lv_astore_n C.1 C.2.1 hd rfl hl (by rw [← hL]; exact hn) rfl (fun rl' hl' => g.2 H locs rl' h1 h2 hP hS (zst_has C.2.2.2.2.2.2.2.2.2.2.2.2.2.2.2.1 hn hl') (by rw [zst_len]; exact hL))
    · cases h
  · rename_i x st
    split at h
    · cases h
    rename_i hne
    dsimp only at h
    unfold zv_sto at h
    split at h
    · rename_i hn
      have g := hk _ _ _ h
      refine ⟨g.1, fun H locs rl h1 h2 hP hS hl hL => ?_⟩
      obtain ⟨t, ht⟩ := C.2.2.2.2.2.2.2.2.2.2.2.2.2.2.2.2 x hne
      have e : zc s0 ov (.retAddr x) = .ref t := ht
      rw [List.map_cons, e]
      refine lv_astore_n C.1 C.2.1 hd rfl hl (by rw [← hL]; exact hn) rfl (fun rl' hl' => g.2 H locs rl' h1 h2 hP hS (zst_has C.2.2.2.2.2.2.2.2.2.2.2.2.2.2.2.1 hn ?_) (by rw [zst_len]; exact hL))
      rw [e]
      exact hl'
    · cases h
  · cases h
theorem zs_astore (C : zCx X s0 ov cA D n0 z0 res m p R s mid args meth c) {n : Nat} (hd : decode (zv_mb m) pc = .ok (.astore n, 2)) (h : zv_op X (.astore n) d ls st μ k = some res) (hk : ∀ ls st μ, k ls st μ = some res → zW X s0 ov cA D n0 z0 res m p l e R s mid args below meth c Q (pc + 2) ls st μ) : zW X s0 ov cA D n0 z0 res m p l e R s mid args below meth c Q pc ls st μ := by
  change zv_p1a st (fun x st => zv_sto ls n x (fun ls => k ls st μ)) = some res at h
  unfold zv_p1a at h
  split at h
  · rename_i x st
    dsimp only at h
    unfold zv_sto at h
    split at h
    · rename_i hn
      have g := hk _ _ _ h
      refine ⟨g.1, fun H locs rl h1 h2 hP hS hl hL => ?_⟩
      exact lv_astore C.1 C.2.1 hd hl (by rw [← hL]; exact hn) rfl (fun rl' hl' => g.2 H locs rl' h1 h2 hP hS (zst_has C.2.2.2.2.2.2.2.2.2.2.2.2.2.2.2.1 hn hl') (by rw [zst_len]; exact hL))
    · cases h
  · rename_i x st
    split at h
    · cases h
    rename_i hne
    dsimp only at h
    unfold zv_sto at h
    split at h
    · rename_i hn
      have g := hk _ _ _ h
      refine ⟨g.1, fun H locs rl h1 h2 hP hS hl hL => ?_⟩
      obtain ⟨t, ht⟩ := C.2.2.2.2.2.2.2.2.2.2.2.2.2.2.2.2 x hne
      have e : zc s0 ov (.retAddr x) = .ref t := ht
      rw [List.map_cons, e]
      refine lv_astore C.1 C.2.1 hd hl (by rw [← hL]; exact hn) rfl (fun rl' hl' => g.2 H locs rl' h1 h2 hP hS (zst_has C.2.2.2.2.2.2.2.2.2.2.2.2.2.2.2.1 hn ?_) (by rw [zst_len]; exact hL))
      rw [e]
      exact hl'
    · cases h
  · cases h
theorem zs_iinc (C : zCx X s0 ov cA D n0 z0 res m p R s mid args meth c) {n : Nat} {b : Int} (hd : decode (zv_mb m) pc = .ok (.iinc n b, 3)) (h : zv_op X (.iinc n b) d ls st μ k = some res) (hk : ∀ ls st μ, k ls st μ = some res → zW X s0 ov cA D n0 z0 res m p l e R s mid args below meth c Q (pc + 3) ls st μ) : zW X s0 ov cA D n0 z0 res m p l e R s mid args below meth c Q pc ls st μ := by
  change zv_ldi ls n (fun x => zv_sto ls n (.int (x + Int32.ofInt b)) (fun ls => k ls st μ)) = some res at h
  unfold zv_ldi at h
  split at h
  · rename_i x hx
    dsimp only at h
    unfold zv_sto at h
    split at h
    · rename_i hn
      have g := hk _ _ _ h
      refine ⟨g.1, fun H locs rl h1 h2 hP hS hl hL => ?_⟩
      obtain ⟨q, hq⟩ := List.getElem?_of_mem (zal_mem.mpr ⟨_, hx, rfl⟩ : (n, zc s0 ov (.int x)) ∈ zal s0 ov ls)
      exact lv_iinc C.1 C.2.1 hd hl hq rfl (by rw [← hL]; exact hn) rfl (fun rl' hl' => g.2 H locs rl' h1 h2 hP hS (zst_has C.2.2.2.2.2.2.2.2.2.2.2.2.2.2.2.1 hn hl') (by rw [zst_len]; exact hL))
    · cases h
  · cases h
theorem zs_dup (C : zCx X s0 ov cA D n0 z0 res m p R s mid args meth c) (hd : decode (zv_mb m) pc = .ok (.dup, 1)) (h : zv_op X (.dup) d ls st μ k = some res) (hk : ∀ ls st μ, k ls st μ = some res → zW X s0 ov cA D n0 z0 res m p l e R s mid args below meth c Q (pc + 1) ls st μ) : zW X s0 ov cA D n0 z0 res m p l e R s mid args below meth c Q pc ls st μ := by
  unfold zv_op at h
  dsimp only at h
  split at h
  · rename_i v st
    split at h
    · rename_i hc
      have g := hk _ _ _ h
      refine ⟨g.1, fun H locs rl h1 h2 hP hS hl hL => ?_⟩
      exact lv_dup C.1 C.2.1 hd (by rw [zc_cat C.2.2.2.2.2.2.2.2.2.2.2.2.2.2.2.1]; exact hc) (g.2 H locs rl h1 h2 hP hS hl hL)
    · cases h
  · cases h
theorem zs_pop (C : zCx X s0 ov cA D n0 z0 res m p R s mid args meth c) (hd : decode (zv_mb m) pc = .ok (.pop, 1)) (h : zv_op X (.pop) d ls st μ k = some res) (hk : ∀ ls st μ, k ls st μ = some res → zW X s0 ov cA D n0 z0 res m p l e R s mid args below meth c Q (pc + 1) ls st μ) : zW X s0 ov cA D n0 z0 res m p l e R s mid args below meth c Q pc ls st μ := by
  unfold zv_op at h
  dsimp only at h
  split at h
  · rename_i v st
    split at h
    · rename_i hc
      have g := hk _ _ _ h
      refine ⟨g.1, fun H locs rl h1 h2 hP hS hl hL => ?_⟩
      exact lv_pop C.1 C.2.1 hd (by rw [zc_cat C.2.2.2.2.2.2.2.2.2.2.2.2.2.2.2.1]; exact hc) (g.2 H locs rl h1 h2 hP hS hl hL)
    · cases h
  · cases h
theorem zs_dup2 (C : zCx X s0 ov cA D n0 z0 res m p R s mid args meth c) (hd : decode (zv_mb m) pc = .ok (.dup2, 1)) (h : zv_op X (.dup2) d ls st μ k = some res) (hk : ∀ ls st μ, k ls st μ = some res → zW X s0 ov cA D n0 z0 res m p l e R s mid args below meth c Q (pc + 1) ls st μ) : zW X s0 ov cA D n0 z0 res m p l e R s mid args below meth c Q pc ls st μ := by
  unfold zv_op at h
  dsimp only at h
  split at h
  · rename_i v w st
    split at h
    · rename_i hc
      split at h
      · rename_i hc2
        have g := hk _ _ _ h
        refine ⟨g.1, fun H locs rl h1 h2 hP hS hl hL => ?_⟩
        exact lv_dup2_11 C.1 C.2.1 hd (by rw [zc_cat C.2.2.2.2.2.2.2.2.2.2.2.2.2.2.2.1]; exact hc) (by rw [zc_cat C.2.2.2.2.2.2.2.2.2.2.2.2.2.2.2.1]; exact hc2) (g.2 H locs rl h1 h2 hP hS hl hL)
      · cases h
    · cases h
  · cases h
end ZS1
end
section
/-! facts of the made kinds -/
def zty (t : Nat) (ty : FieldType) : Prop := (t = 0 ∧ ty = .int) ∨ (t = 1 ∧ ty = .long) ∨ (t = 3 ∧ ty = .boolean) ∨ (t = 2 ∧ ((∃ n, ty = .object n) ∨ ∃ u, ty = .array u))
/-- the kind c: its name, its fields, their types -/
def zk_c (c : Nat) (C : String) (T : u_T) (ty : Nat → FieldType) : Prop := vwCl[c]? = some (C, T, (zv_fs c).length) ∧ (∀ j, j < (zv_fs c).length → (T j).1 = C) ∧ (∀ w ∈ u_ws C T (zv_fs c).length, w ∈ zv_gw) ∧ (∀ a, a < (zv_fs c).length → ∀ b, b < (zv_fs c).length → a ≠ b → (T a).2.1 ≠ (T b).2.1) ∧ (∀ j, j < (zv_fs c).length → parseFieldDescriptor (T j).2.2.1 = some (ty j)) ∧ (∀ j, j < (zv_fs c).length → zty ((zv_fs c).getD j 9) (ty j)) ∧ Cond.instantiable C (zv_fs c).length ∈ zv_gw ∧ Cond.initialized C ∈ zv_gw ∧ C = zv_cn c
theorem zw_in {w : Cond} {i : Nat} (h : lw_tbl[i]? = some w) (hg : goodWord w = true) : w ∈ zv_gw := List.mem_filter.mpr ⟨List.mem_of_getElem? h, hg⟩
theorem zk_ws0 : ∀ w ∈ u_ws RX0 TX0 4, w ∈ zv_gw := by
  intro w hw
  obtain ⟨j, hj, rfl⟩ := List.mem_map.mp hw
  have hj := List.mem_range.mp hj
  match j, hj with
  | 0, _ => exact zw_in (i := 148) (by decide +kernel) rfl
  | 1, _ => exact zw_in (i := 150) (by decide +kernel) rfl
  | 2, _ => exact zw_in (i := 152) (by decide +kernel) rfl
  | 3, _ => exact zw_in (i := 154) (by decide +kernel) rfl
  | j + 4, h => exact absurd h (by omega)
theorem zk_0 : zk_c 0 RX0 TX0 tyX0 := by
  refine ⟨rfl, fun j h => by
    match j, h with
    | 0, _ => rfl
    | 1, _ => rfl
    | 2, _ => rfl
    | 3, _ => rfl
    | j + 4, h => exact absurd h (by show ¬ j + 4 < 4; omega), zk_ws0, nmX0, tyX0_ok, fun j h => by
    match j, h with
    | 0, _ => exact Or.inr (Or.inr (Or.inr ⟨rfl, Or.inr ⟨_, rfl⟩⟩))
    | 1, _ => exact Or.inr (Or.inr (Or.inr ⟨rfl, Or.inr ⟨_, rfl⟩⟩))
    | 2, _ => exact Or.inl ⟨rfl, rfl⟩
    | 3, _ => exact Or.inl ⟨rfl, rfl⟩
    | j + 4, h => exact absurd h (by show ¬ j + 4 < 4; omega), zw_in (i := 135) (by decide +kernel) rfl, zw_in (i := 68) (by decide +kernel) rfl, rfl⟩
theorem zk_ws1 : ∀ w ∈ u_ws RX1 TX1 4, w ∈ zv_gw := by
  intro w hw
  obtain ⟨j, hj, rfl⟩ := List.mem_map.mp hw
  have hj := List.mem_range.mp hj
  match j, hj with
  | 0, _ => exact zw_in (i := 384) (by decide +kernel) rfl
  | 1, _ => exact zw_in (i := 386) (by decide +kernel) rfl
  | 2, _ => exact zw_in (i := 388) (by decide +kernel) rfl
  | 3, _ => exact zw_in (i := 390) (by decide +kernel) rfl
  | j + 4, h => exact absurd h (by omega)
theorem zk_1 : zk_c 1 RX1 TX1 tyX1 := by
  refine ⟨rfl, fun j h => by
    match j, h with
    | 0, _ => rfl
    | 1, _ => rfl
    | 2, _ => rfl
    | 3, _ => rfl
    | j + 4, h => exact absurd h (by show ¬ j + 4 < 4; omega), zk_ws1, nmX1, tyX1_ok, fun j h => by
    match j, h with
    | 0, _ => exact Or.inr (Or.inr (Or.inr ⟨rfl, Or.inr ⟨_, rfl⟩⟩))
    | 1, _ => exact Or.inr (Or.inr (Or.inr ⟨rfl, Or.inl ⟨_, rfl⟩⟩))
    | 2, _ => exact Or.inl ⟨rfl, rfl⟩
    | 3, _ => exact Or.inl ⟨rfl, rfl⟩
    | j + 4, h => exact absurd h (by show ¬ j + 4 < 4; omega), zw_in (i := 280) (by decide +kernel) rfl, zw_in (i := 73) (by decide +kernel) rfl, rfl⟩
theorem zk_ws2 : ∀ w ∈ u_ws RX2 TX2 4, w ∈ zv_gw := by
  intro w hw
  obtain ⟨j, hj, rfl⟩ := List.mem_map.mp hw
  have hj := List.mem_range.mp hj
  match j, hj with
  | 0, _ => exact zw_in (i := 326) (by decide +kernel) rfl
  | 1, _ => exact zw_in (i := 328) (by decide +kernel) rfl
  | 2, _ => exact zw_in (i := 330) (by decide +kernel) rfl
  | 3, _ => exact zw_in (i := 332) (by decide +kernel) rfl
  | j + 4, h => exact absurd h (by omega)
theorem zk_2 : zk_c 2 RX2 TX2 tyX2 := by
  refine ⟨rfl, fun j h => by
    match j, h with
    | 0, _ => rfl
    | 1, _ => rfl
    | 2, _ => rfl
    | 3, _ => rfl
    | j + 4, h => exact absurd h (by show ¬ j + 4 < 4; omega), zk_ws2, nmX2, tyX2_ok, fun j h => by
    match j, h with
    | 0, _ => exact Or.inr (Or.inr (Or.inr ⟨rfl, Or.inl ⟨_, rfl⟩⟩))
    | 1, _ => exact Or.inr (Or.inr (Or.inr ⟨rfl, Or.inl ⟨_, rfl⟩⟩))
    | 2, _ => exact Or.inr (Or.inl ⟨rfl, rfl⟩)
    | 3, _ => exact Or.inr (Or.inl ⟨rfl, rfl⟩)
    | j + 4, h => exact absurd h (by show ¬ j + 4 < 4; omega), zw_in (i := 288) (by decide +kernel) rfl, zw_in (i := 74) (by decide +kernel) rfl, rfl⟩
theorem zk_ws3 : ∀ w ∈ u_ws RX3 TX3 1, w ∈ zv_gw := by
  intro w hw
  obtain ⟨j, hj, rfl⟩ := List.mem_map.mp hw
  have hj := List.mem_range.mp hj
  match j, hj with
  | 0, _ => exact zw_in (i := 170) (by decide +kernel) rfl
  | j + 1, h => exact absurd h (by omega)
theorem zk_3 : zk_c 3 RX3 TX3 tyX3 := by
  refine ⟨rfl, fun j h => by
    match j, h with
    | 0, _ => rfl
    | j + 1, h => exact absurd h (by show ¬ j + 1 < 1; omega), zk_ws3, nmX3, tyX3_ok, fun j h => by
    match j, h with
    | 0, _ => exact Or.inr (Or.inr (Or.inr ⟨rfl, Or.inr ⟨_, rfl⟩⟩))
    | j + 1, h => exact absurd h (by show ¬ j + 1 < 1; omega), zw_in (i := 158) (by decide +kernel) rfl, zw_in (i := 69) (by decide +kernel) rfl, rfl⟩
theorem zk_ws4 : ∀ w ∈ u_ws RX4 TX4 3, w ∈ zv_gw := by
  intro w hw
  obtain ⟨j, hj, rfl⟩ := List.mem_map.mp hw
  have hj := List.mem_range.mp hj
  match j, hj with
  | 0, _ => exact zw_in (i := 117) (by decide +kernel) rfl
  | 1, _ => exact zw_in (i := 119) (by decide +kernel) rfl
  | 2, _ => exact zw_in (i := 121) (by decide +kernel) rfl
  | j + 3, h => exact absurd h (by omega)
theorem zk_4 : zk_c 4 RX4 TX4 tyX4 := by
  refine ⟨rfl, fun j h => by
    match j, h with
    | 0, _ => rfl
    | 1, _ => rfl
    | 2, _ => rfl
    | j + 3, h => exact absurd h (by show ¬ j + 3 < 3; omega), zk_ws4, nmX4, tyX4_ok, fun j h => by
    match j, h with
    | 0, _ => exact Or.inr (Or.inr (Or.inr ⟨rfl, Or.inr ⟨_, rfl⟩⟩))
    | 1, _ => exact Or.inr (Or.inr (Or.inr ⟨rfl, Or.inr ⟨_, rfl⟩⟩))
    | 2, _ => exact Or.inl ⟨rfl, rfl⟩
    | j + 3, h => exact absurd h (by show ¬ j + 3 < 3; omega), zw_in (i := 100) (by decide +kernel) rfl, zw_in (i := 67) (by decide +kernel) rfl, rfl⟩
theorem zk_ws5 : ∀ w ∈ u_ws RX5 TX5 8, w ∈ zv_gw := by
  intro w hw
  obtain ⟨j, hj, rfl⟩ := List.mem_map.mp hw
  have hj := List.mem_range.mp hj
  match j, hj with
  | 0, _ => exact zw_in (i := 358) (by decide +kernel) rfl
  | 1, _ => exact zw_in (i := 360) (by decide +kernel) rfl
  | 2, _ => exact zw_in (i := 362) (by decide +kernel) rfl
  | 3, _ => exact zw_in (i := 364) (by decide +kernel) rfl
  | 4, _ => exact zw_in (i := 366) (by decide +kernel) rfl
  | 5, _ => exact zw_in (i := 368) (by decide +kernel) rfl
  | 6, _ => exact zw_in (i := 370) (by decide +kernel) rfl
  | 7, _ => exact zw_in (i := 372) (by decide +kernel) rfl
  | j + 8, h => exact absurd h (by omega)
theorem zk_5 : zk_c 5 RX5 TX5 tyX5 := by
  refine ⟨rfl, fun j h => by
    match j, h with
    | 0, _ => rfl
    | 1, _ => rfl
    | 2, _ => rfl
    | 3, _ => rfl
    | 4, _ => rfl
    | 5, _ => rfl
    | 6, _ => rfl
    | 7, _ => rfl
    | j + 8, h => exact absurd h (by show ¬ j + 8 < 8; omega), zk_ws5, nmX5, tyX5_ok, fun j h => by
    match j, h with
    | 0, _ => exact Or.inr (Or.inr (Or.inr ⟨rfl, Or.inr ⟨_, rfl⟩⟩))
    | 1, _ => exact Or.inl ⟨rfl, rfl⟩
    | 2, _ => exact Or.inl ⟨rfl, rfl⟩
    | 3, _ => exact Or.inl ⟨rfl, rfl⟩
    | 4, _ => exact Or.inr (Or.inr (Or.inr ⟨rfl, Or.inr ⟨_, rfl⟩⟩))
    | 5, _ => exact Or.inr (Or.inr (Or.inr ⟨rfl, Or.inr ⟨_, rfl⟩⟩))
    | 6, _ => exact Or.inr (Or.inr (Or.inr ⟨rfl, Or.inr ⟨_, rfl⟩⟩))
    | 7, _ => exact Or.inr (Or.inr (Or.inr ⟨rfl, Or.inr ⟨_, rfl⟩⟩))
    | j + 8, h => exact absurd h (by show ¬ j + 8 < 8; omega), zw_in (i := 335) (by decide +kernel) rfl, zw_in (i := 76) (by decide +kernel) rfl, rfl⟩
theorem zk_ws6 : ∀ w ∈ u_ws RX6 TX6 5, w ∈ zv_gw := by
  intro w hw
  obtain ⟨j, hj, rfl⟩ := List.mem_map.mp hw
  have hj := List.mem_range.mp hj
  match j, hj with
  | 0, _ => exact zw_in (i := 186) (by decide +kernel) rfl
  | 1, _ => exact zw_in (i := 188) (by decide +kernel) rfl
  | 2, _ => exact zw_in (i := 190) (by decide +kernel) rfl
  | 3, _ => exact zw_in (i := 192) (by decide +kernel) rfl
  | 4, _ => exact zw_in (i := 194) (by decide +kernel) rfl
  | j + 5, h => exact absurd h (by omega)
theorem zk_6 : zk_c 6 RX6 TX6 tyX6 := by
  refine ⟨rfl, fun j h => by
    match j, h with
    | 0, _ => rfl
    | 1, _ => rfl
    | 2, _ => rfl
    | 3, _ => rfl
    | 4, _ => rfl
    | j + 5, h => exact absurd h (by show ¬ j + 5 < 5; omega), zk_ws6, nmX6, tyX6_ok, fun j h => by
    match j, h with
    | 0, _ => exact Or.inr (Or.inr (Or.inr ⟨rfl, Or.inr ⟨_, rfl⟩⟩))
    | 1, _ => exact Or.inr (Or.inr (Or.inr ⟨rfl, Or.inr ⟨_, rfl⟩⟩))
    | 2, _ => exact Or.inl ⟨rfl, rfl⟩
    | 3, _ => exact Or.inr (Or.inr (Or.inr ⟨rfl, Or.inr ⟨_, rfl⟩⟩))
    | 4, _ => exact Or.inl ⟨rfl, rfl⟩
    | j + 5, h => exact absurd h (by show ¬ j + 5 < 5; omega), zw_in (i := 174) (by decide +kernel) rfl, zw_in (i := 71) (by decide +kernel) rfl, rfl⟩
theorem zk_ws7 : ∀ w ∈ u_ws RX7 TX7 6, w ∈ zv_gw := by
  intro w hw
  obtain ⟨j, hj, rfl⟩ := List.mem_map.mp hw
  have hj := List.mem_range.mp hj
  match j, hj with
  | 0, _ => exact zw_in (i := 307) (by decide +kernel) rfl
  | 1, _ => exact zw_in (i := 309) (by decide +kernel) rfl
  | 2, _ => exact zw_in (i := 311) (by decide +kernel) rfl
  | 3, _ => exact zw_in (i := 313) (by decide +kernel) rfl
  | 4, _ => exact zw_in (i := 315) (by decide +kernel) rfl
  | 5, _ => exact zw_in (i := 317) (by decide +kernel) rfl
  | j + 6, h => exact absurd h (by omega)
theorem zk_7 : zk_c 7 RX7 TX7 tyX7 := by
  refine ⟨rfl, fun j h => by
    match j, h with
    | 0, _ => rfl
    | 1, _ => rfl
    | 2, _ => rfl
    | 3, _ => rfl
    | 4, _ => rfl
    | 5, _ => rfl
    | j + 6, h => exact absurd h (by show ¬ j + 6 < 6; omega), zk_ws7, nmX7, tyX7_ok, fun j h => by
    match j, h with
    | 0, _ => exact Or.inr (Or.inr (Or.inr ⟨rfl, Or.inr ⟨_, rfl⟩⟩))
    | 1, _ => exact Or.inr (Or.inr (Or.inr ⟨rfl, Or.inr ⟨_, rfl⟩⟩))
    | 2, _ => exact Or.inl ⟨rfl, rfl⟩
    | 3, _ => exact Or.inl ⟨rfl, rfl⟩
    | 4, _ => exact Or.inr (Or.inl ⟨rfl, rfl⟩)
    | 5, _ => exact Or.inr (Or.inl ⟨rfl, rfl⟩)
    | j + 6, h => exact absurd h (by show ¬ j + 6 < 6; omega), zw_in (i := 294) (by decide +kernel) rfl, zw_in (i := 75) (by decide +kernel) rfl, rfl⟩
theorem zk_ws8 : ∀ w ∈ u_ws RX8 TX8 5, w ∈ zv_gw := by
  intro w hw
  obtain ⟨j, hj, rfl⟩ := List.mem_map.mp hw
  have hj := List.mem_range.mp hj
  match j, hj with
  | 0, _ => exact zw_in (i := 404) (by decide +kernel) rfl
  | 1, _ => exact zw_in (i := 406) (by decide +kernel) rfl
  | 2, _ => exact zw_in (i := 408) (by decide +kernel) rfl
  | 3, _ => exact zw_in (i := 410) (by decide +kernel) rfl
  | 4, _ => exact zw_in (i := 412) (by decide +kernel) rfl
  | j + 5, h => exact absurd h (by omega)
theorem zk_8 : zk_c 8 RX8 TX8 tyX8 := by
  refine ⟨rfl, fun j h => by
    match j, h with
    | 0, _ => rfl
    | 1, _ => rfl
    | 2, _ => rfl
    | 3, _ => rfl
    | 4, _ => rfl
    | j + 5, h => exact absurd h (by show ¬ j + 5 < 5; omega), zk_ws8, nmX8, tyX8_ok, fun j h => by
    match j, h with
    | 0, _ => exact Or.inr (Or.inr (Or.inr ⟨rfl, Or.inr ⟨_, rfl⟩⟩))
    | 1, _ => exact Or.inl ⟨rfl, rfl⟩
    | 2, _ => exact Or.inl ⟨rfl, rfl⟩
    | 3, _ => exact Or.inr (Or.inr (Or.inr ⟨rfl, Or.inl ⟨_, rfl⟩⟩))
    | 4, _ => exact Or.inl ⟨rfl, rfl⟩
    | j + 5, h => exact absurd h (by show ¬ j + 5 < 5; omega), zw_in (i := 394) (by decide +kernel) rfl, zw_in (i := 77) (by decide +kernel) rfl, rfl⟩
theorem zk_ws9 : ∀ w ∈ u_ws RX9 TX9 8, w ∈ zv_gw := by
  intro w hw
  obtain ⟨j, hj, rfl⟩ := List.mem_map.mp hw
  have hj := List.mem_range.mp hj
  match j, hj with
  | 0, _ => exact zw_in (i := 217) (by decide +kernel) rfl
  | 1, _ => exact zw_in (i := 219) (by decide +kernel) rfl
  | 2, _ => exact zw_in (i := 221) (by decide +kernel) rfl
  | 3, _ => exact zw_in (i := 223) (by decide +kernel) rfl
  | 4, _ => exact zw_in (i := 225) (by decide +kernel) rfl
  | 5, _ => exact zw_in (i := 227) (by decide +kernel) rfl
  | 6, _ => exact zw_in (i := 229) (by decide +kernel) rfl
  | 7, _ => exact zw_in (i := 231) (by decide +kernel) rfl
  | j + 8, h => exact absurd h (by omega)
theorem zk_9 : zk_c 9 RX9 TX9 tyX9 := by
  refine ⟨rfl, fun j h => by
    match j, h with
    | 0, _ => rfl
    | 1, _ => rfl
    | 2, _ => rfl
    | 3, _ => rfl
    | 4, _ => rfl
    | 5, _ => rfl
    | 6, _ => rfl
    | 7, _ => rfl
    | j + 8, h => exact absurd h (by show ¬ j + 8 < 8; omega), zk_ws9, nmX9, tyX9_ok, fun j h => by
    match j, h with
    | 0, _ => exact Or.inr (Or.inr (Or.inr ⟨rfl, Or.inl ⟨_, rfl⟩⟩))
    | 1, _ => exact Or.inr (Or.inr (Or.inr ⟨rfl, Or.inr ⟨_, rfl⟩⟩))
    | 2, _ => exact Or.inl ⟨rfl, rfl⟩
    | 3, _ => exact Or.inr (Or.inr (Or.inr ⟨rfl, Or.inr ⟨_, rfl⟩⟩))
    | 4, _ => exact Or.inl ⟨rfl, rfl⟩
    | 5, _ => exact Or.inr (Or.inr (Or.inr ⟨rfl, Or.inl ⟨_, rfl⟩⟩))
    | 6, _ => exact Or.inr (Or.inr (Or.inr ⟨rfl, Or.inl ⟨_, rfl⟩⟩))
    | 7, _ => exact Or.inr (Or.inr (Or.inr ⟨rfl, Or.inl ⟨_, rfl⟩⟩))
    | j + 8, h => exact absurd h (by show ¬ j + 8 < 8; omega), zw_in (i := 94) (by decide +kernel) rfl, zw_in (i := 66) (by decide +kernel) rfl, rfl⟩
theorem zk_ws10 : ∀ w ∈ u_ws RX10 TX10 10, w ∈ zv_gw := by
  intro w hw
  obtain ⟨j, hj, rfl⟩ := List.mem_map.mp hw
  have hj := List.mem_range.mp hj
  match j, hj with
  | 0, _ => exact zw_in (i := 257) (by decide +kernel) rfl
  | 1, _ => exact zw_in (i := 259) (by decide +kernel) rfl
  | 2, _ => exact zw_in (i := 261) (by decide +kernel) rfl
  | 3, _ => exact zw_in (i := 263) (by decide +kernel) rfl
  | 4, _ => exact zw_in (i := 265) (by decide +kernel) rfl
  | 5, _ => exact zw_in (i := 267) (by decide +kernel) rfl
  | 6, _ => exact zw_in (i := 269) (by decide +kernel) rfl
  | 7, _ => exact zw_in (i := 271) (by decide +kernel) rfl
  | 8, _ => exact zw_in (i := 273) (by decide +kernel) rfl
  | 9, _ => exact zw_in (i := 275) (by decide +kernel) rfl
  | j + 10, h => exact absurd h (by omega)
theorem zk_10 : zk_c 10 RX10 TX10 tyX10 := by
  refine ⟨rfl, fun j h => by
    match j, h with
    | 0, _ => rfl
    | 1, _ => rfl
    | 2, _ => rfl
    | 3, _ => rfl
    | 4, _ => rfl
    | 5, _ => rfl
    | 6, _ => rfl
    | 7, _ => rfl
    | 8, _ => rfl
    | 9, _ => rfl
    | j + 10, h => exact absurd h (by show ¬ j + 10 < 10; omega), zk_ws10, nmX10, tyX10_ok, fun j h => by
    match j, h with
    | 0, _ => exact Or.inr (Or.inr (Or.inr ⟨rfl, Or.inr ⟨_, rfl⟩⟩))
    | 1, _ => exact Or.inl ⟨rfl, rfl⟩
    | 2, _ => exact Or.inr (Or.inr (Or.inr ⟨rfl, Or.inl ⟨_, rfl⟩⟩))
    | 3, _ => exact Or.inr (Or.inr (Or.inr ⟨rfl, Or.inr ⟨_, rfl⟩⟩))
    | 4, _ => exact Or.inl ⟨rfl, rfl⟩
    | 5, _ => exact Or.inl ⟨rfl, rfl⟩
    | 6, _ => exact Or.inr (Or.inr (Or.inr ⟨rfl, Or.inr ⟨_, rfl⟩⟩))
    | 7, _ => exact Or.inr (Or.inr (Or.inr ⟨rfl, Or.inr ⟨_, rfl⟩⟩))
    | 8, _ => exact Or.inr (Or.inr (Or.inr ⟨rfl, Or.inr ⟨_, rfl⟩⟩))
    | 9, _ => exact Or.inl ⟨rfl, rfl⟩
    | j + 10, h => exact absurd h (by show ¬ j + 10 < 10; omega), zw_in (i := 235) (by decide +kernel) rfl, zw_in (i := 72) (by decide +kernel) rfl, rfl⟩
theorem zk_ws11 : ∀ w ∈ u_ws RX11 TX11 8, w ∈ zv_gw := by
  intro w hw
  obtain ⟨j, hj, rfl⟩ := List.mem_map.mp hw
  have hj := List.mem_range.mp hj
  match j, hj with
  | 0, _ => exact zw_in (i := 424) (by decide +kernel) rfl
  | 1, _ => exact zw_in (i := 426) (by decide +kernel) rfl
  | 2, _ => exact zw_in (i := 428) (by decide +kernel) rfl
  | 3, _ => exact zw_in (i := 430) (by decide +kernel) rfl
  | 4, _ => exact zw_in (i := 432) (by decide +kernel) rfl
  | 5, _ => exact zw_in (i := 434) (by decide +kernel) rfl
  | 6, _ => exact zw_in (i := 436) (by decide +kernel) rfl
  | 7, _ => exact zw_in (i := 438) (by decide +kernel) rfl
  | j + 8, h => exact absurd h (by omega)
theorem zk_11 : zk_c 11 RX11 TX11 tyX11 := by
  refine ⟨rfl, fun j h => by
    match j, h with
    | 0, _ => rfl
    | 1, _ => rfl
    | 2, _ => rfl
    | 3, _ => rfl
    | 4, _ => rfl
    | 5, _ => rfl
    | 6, _ => rfl
    | 7, _ => rfl
    | j + 8, h => exact absurd h (by show ¬ j + 8 < 8; omega), zk_ws11, nmX11, tyX11_ok, fun j h => by
    match j, h with
    | 0, _ => exact Or.inr (Or.inr (Or.inr ⟨rfl, Or.inl ⟨_, rfl⟩⟩))
    | 1, _ => exact Or.inr (Or.inr (Or.inr ⟨rfl, Or.inl ⟨_, rfl⟩⟩))
    | 2, _ => exact Or.inr (Or.inr (Or.inl ⟨rfl, rfl⟩))
    | 3, _ => exact Or.inr (Or.inr (Or.inr ⟨rfl, Or.inl ⟨_, rfl⟩⟩))
    | 4, _ => exact Or.inr (Or.inr (Or.inr ⟨rfl, Or.inl ⟨_, rfl⟩⟩))
    | 5, _ => exact Or.inr (Or.inr (Or.inr ⟨rfl, Or.inl ⟨_, rfl⟩⟩))
    | 6, _ => exact Or.inr (Or.inr (Or.inr ⟨rfl, Or.inl ⟨_, rfl⟩⟩))
    | 7, _ => exact Or.inr (Or.inr (Or.inr ⟨rfl, Or.inr ⟨_, rfl⟩⟩))
    | j + 8, h => exact absurd h (by show ¬ j + 8 < 8; omega), zw_in (i := 86) (by decide +kernel) rfl, zw_in (i := 65) (by decide +kernel) rfl, rfl⟩
theorem zk_ws12 : ∀ w ∈ u_ws RX12 TX12 33, w ∈ zv_gw := by
  intro w hw
  obtain ⟨j, hj, rfl⟩ := List.mem_map.mp hw
  have hj := List.mem_range.mp hj
  match j, hj with
  | 0, _ => exact zw_in (i := 1039) (by decide +kernel) rfl
  | 1, _ => exact zw_in (i := 1041) (by decide +kernel) rfl
  | 2, _ => exact zw_in (i := 1043) (by decide +kernel) rfl
  | 3, _ => exact zw_in (i := 1045) (by decide +kernel) rfl
  | 4, _ => exact zw_in (i := 1047) (by decide +kernel) rfl
  | 5, _ => exact zw_in (i := 1049) (by decide +kernel) rfl
  | 6, _ => exact zw_in (i := 1051) (by decide +kernel) rfl
  | 7, _ => exact zw_in (i := 1053) (by decide +kernel) rfl
  | 8, _ => exact zw_in (i := 1055) (by decide +kernel) rfl
  | 9, _ => exact zw_in (i := 1057) (by decide +kernel) rfl
  | 10, _ => exact zw_in (i := 1059) (by decide +kernel) rfl
  | 11, _ => exact zw_in (i := 1061) (by decide +kernel) rfl
  | 12, _ => exact zw_in (i := 1063) (by decide +kernel) rfl
  | 13, _ => exact zw_in (i := 1065) (by decide +kernel) rfl
  | 14, _ => exact zw_in (i := 1067) (by decide +kernel) rfl
  | 15, _ => exact zw_in (i := 1069) (by decide +kernel) rfl
  | 16, _ => exact zw_in (i := 1071) (by decide +kernel) rfl
  | 17, _ => exact zw_in (i := 1073) (by decide +kernel) rfl
  | 18, _ => exact zw_in (i := 1075) (by decide +kernel) rfl
  | 19, _ => exact zw_in (i := 1077) (by decide +kernel) rfl
  | 20, _ => exact zw_in (i := 1079) (by decide +kernel) rfl
  | 21, _ => exact zw_in (i := 1081) (by decide +kernel) rfl
  | 22, _ => exact zw_in (i := 1083) (by decide +kernel) rfl
  | 23, _ => exact zw_in (i := 1085) (by decide +kernel) rfl
  | 24, _ => exact zw_in (i := 1087) (by decide +kernel) rfl
  | 25, _ => exact zw_in (i := 1089) (by decide +kernel) rfl
  | 26, _ => exact zw_in (i := 1091) (by decide +kernel) rfl
  | 27, _ => exact zw_in (i := 1093) (by decide +kernel) rfl
  | 28, _ => exact zw_in (i := 1095) (by decide +kernel) rfl
  | 29, _ => exact zw_in (i := 1097) (by decide +kernel) rfl
  | 30, _ => exact zw_in (i := 1099) (by decide +kernel) rfl
  | 31, _ => exact zw_in (i := 1101) (by decide +kernel) rfl
  | 32, _ => exact zw_in (i := 1103) (by decide +kernel) rfl
  | j + 33, h => exact absurd h (by omega)
theorem zk_12 : zk_c 12 RX12 TX12 tyX12 := by
  refine ⟨rfl, fun j h => by
    match j, h with
    | 0, _ => rfl
    | 1, _ => rfl
    | 2, _ => rfl
    | 3, _ => rfl
    | 4, _ => rfl
    | 5, _ => rfl
    | 6, _ => rfl
    | 7, _ => rfl
    | 8, _ => rfl
    | 9, _ => rfl
    | 10, _ => rfl
    | 11, _ => rfl
    | 12, _ => rfl
    | 13, _ => rfl
    | 14, _ => rfl
    | 15, _ => rfl
    | 16, _ => rfl
    | 17, _ => rfl
    | 18, _ => rfl
    | 19, _ => rfl
    | 20, _ => rfl
    | 21, _ => rfl
    | 22, _ => rfl
    | 23, _ => rfl
    | 24, _ => rfl
    | 25, _ => rfl
    | 26, _ => rfl
    | 27, _ => rfl
    | 28, _ => rfl
    | 29, _ => rfl
    | 30, _ => rfl
    | 31, _ => rfl
    | 32, _ => rfl
    | j + 33, h => exact absurd h (by show ¬ j + 33 < 33; omega), zk_ws12, nmX12, tyX12_ok, fun j h => by
    match j, h with
    | 0, _ => exact Or.inr (Or.inr (Or.inr ⟨rfl, Or.inr ⟨_, rfl⟩⟩))
    | 1, _ => exact Or.inr (Or.inr (Or.inr ⟨rfl, Or.inr ⟨_, rfl⟩⟩))
    | 2, _ => exact Or.inr (Or.inr (Or.inr ⟨rfl, Or.inr ⟨_, rfl⟩⟩))
    | 3, _ => exact Or.inr (Or.inr (Or.inl ⟨rfl, rfl⟩))
    | 4, _ => exact Or.inr (Or.inr (Or.inr ⟨rfl, Or.inr ⟨_, rfl⟩⟩))
    | 5, _ => exact Or.inr (Or.inr (Or.inr ⟨rfl, Or.inr ⟨_, rfl⟩⟩))
    | 6, _ => exact Or.inr (Or.inr (Or.inr ⟨rfl, Or.inr ⟨_, rfl⟩⟩))
    | 7, _ => exact Or.inl ⟨rfl, rfl⟩
    | 8, _ => exact Or.inl ⟨rfl, rfl⟩
    | 9, _ => exact Or.inl ⟨rfl, rfl⟩
    | 10, _ => exact Or.inl ⟨rfl, rfl⟩
    | 11, _ => exact Or.inl ⟨rfl, rfl⟩
    | 12, _ => exact Or.inl ⟨rfl, rfl⟩
    | 13, _ => exact Or.inl ⟨rfl, rfl⟩
    | 14, _ => exact Or.inl ⟨rfl, rfl⟩
    | 15, _ => exact Or.inl ⟨rfl, rfl⟩
    | 16, _ => exact Or.inl ⟨rfl, rfl⟩
    | 17, _ => exact Or.inr (Or.inr (Or.inr ⟨rfl, Or.inr ⟨_, rfl⟩⟩))
    | 18, _ => exact Or.inr (Or.inr (Or.inr ⟨rfl, Or.inr ⟨_, rfl⟩⟩))
    | 19, _ => exact Or.inr (Or.inr (Or.inr ⟨rfl, Or.inr ⟨_, rfl⟩⟩))
    | 20, _ => exact Or.inr (Or.inr (Or.inr ⟨rfl, Or.inr ⟨_, rfl⟩⟩))
    | 21, _ => exact Or.inr (Or.inr (Or.inr ⟨rfl, Or.inr ⟨_, rfl⟩⟩))
    | 22, _ => exact Or.inr (Or.inr (Or.inr ⟨rfl, Or.inr ⟨_, rfl⟩⟩))
    | 23, _ => exact Or.inr (Or.inr (Or.inr ⟨rfl, Or.inr ⟨_, rfl⟩⟩))
    | 24, _ => exact Or.inr (Or.inr (Or.inr ⟨rfl, Or.inr ⟨_, rfl⟩⟩))
    | 25, _ => exact Or.inl ⟨rfl, rfl⟩
    | 26, _ => exact Or.inr (Or.inl ⟨rfl, rfl⟩)
    | 27, _ => exact Or.inr (Or.inl ⟨rfl, rfl⟩)
    | 28, _ => exact Or.inr (Or.inl ⟨rfl, rfl⟩)
    | 29, _ => exact Or.inr (Or.inl ⟨rfl, rfl⟩)
    | 30, _ => exact Or.inl ⟨rfl, rfl⟩
    | 31, _ => exact Or.inr (Or.inr (Or.inr ⟨rfl, Or.inr ⟨_, rfl⟩⟩))
    | 32, _ => exact Or.inr (Or.inr (Or.inr ⟨rfl, Or.inr ⟨_, rfl⟩⟩))
    | j + 33, h => exact absurd h (by show ¬ j + 33 < 33; omega), zw_in (i := 997) (by decide +kernel) rfl, zw_in (i := 78) (by decide +kernel) rfl, rfl⟩
theorem zk_all : ∀ c, c < 13 → ∃ C T ty, zk_c c C T ty := by
  intro c hc
  match c, hc with
  | 0, _ => exact ⟨_, _, _, zk_0⟩
  | 1, _ => exact ⟨_, _, _, zk_1⟩
  | 2, _ => exact ⟨_, _, _, zk_2⟩
  | 3, _ => exact ⟨_, _, _, zk_3⟩
  | 4, _ => exact ⟨_, _, _, zk_4⟩
  | 5, _ => exact ⟨_, _, _, zk_5⟩
  | 6, _ => exact ⟨_, _, _, zk_6⟩
  | 7, _ => exact ⟨_, _, _, zk_7⟩
  | 8, _ => exact ⟨_, _, _, zk_8⟩
  | 9, _ => exact ⟨_, _, _, zk_9⟩
  | 10, _ => exact ⟨_, _, _, zk_10⟩
  | 11, _ => exact ⟨_, _, _, zk_11⟩
  | 12, _ => exact ⟨_, _, _, zk_12⟩
  | c + 13, h => exact absurd h (by omega)
end
section
section ZS2A
theorem zw_ob {s0 : Nat} {cA : Nat → ClassId} {μ : zv_M} {a c : Nat} (h : μ.1[a]? = some (.inr c)) : zw s0 cA μ a = .inr (c, (List.range (zv_fs c).length).map (fun j => zfv s0 μ a ((zv_fs c).getD j 9) j)) := by
  unfold zw
  rw [h]
theorem zw_ar {s0 : Nat} {cA : Nat → ClassId} {μ : zv_M} {a t n : Nat} (h : μ.1[a]? = some (.inl (t, n))) : zw s0 cA μ a = .inl (cA t, n, zdt s0 μ a t) := by
  unfold zw
  rw [h]
theorem zlt {μ : zv_M} {a : Nat} {q : (Nat × Nat) ⊕ Nat} (h : μ.1[a]? = some q) : a < μ.1.length := (List.getElem?_eq_some_iff.mp h).1
theorem zws_ob {s0 : Nat} {cA : Nat → ClassId} {μ : zv_M} {a c : Nat} (h : μ.1[a]? = some (.inr c)) : (zws s0 cA μ)[a]? = some (s0 + a, .inr (c, (List.range (zv_fs c).length).map (fun j => zfv s0 μ a ((zv_fs c).getD j 9) j))) := by
  rw [zws_get (zlt h), zw_ob h]
theorem zws_ar {s0 : Nat} {cA : Nat → ClassId} {μ : zv_M} {a t n : Nat} (h : μ.1[a]? = some (.inl (t, n))) : (zws s0 cA μ)[a]? = some (s0 + a, .inl (cA t, n, zdt s0 μ a t)) := by
  rw [zws_get (zlt h), zw_ar h]
theorem zob_spec {α : Type} {μ : zv_M} {c a : Nat} {r : Option α} {y : α} (h : zv_ob μ c a r = some y) : μ.1[a]? = some (.inr c) ∧ r = some y := by
  unfold zv_ob at h
  split at h
  · rename_i c' hc
    split at h
    · rename_i e
      subst e
      exact ⟨hc, h⟩
    · cases h
  · cases h
theorem zix_spec {α : Type} {μ : zv_M} {t a : Nat} {i : Int32} {k : Nat → Option α} {y : α} (h : zv_ix μ t a i k = some y) : ∃ n, μ.1[a]? = some (.inl (t, n)) ∧ vp_in i n ∧ k i.toNatClampNeg = some y := by
  unfold zv_ix at h
  split at h
  · rename_i t' n hc
    split at h
    · rename_i e
      subst e
      split at h
      · cases h
      · rename_i hi
        exact ⟨n, hc, hi, h⟩
    · cases h
  · cases h
theorem ziq_spec {α : Type} {μ : zv_M} {a : Nat} {i : Int32} {k : Nat → Option α} {y : α} (h : zv_iq μ a i k = some y) : ∃ t n, μ.1[a]? = some (.inl (t, n)) ∧ 4 ≤ t ∧ t < 7 ∧ vp_in i n ∧ k i.toNatClampNeg = some y := by
  unfold zv_iq at h
  split at h
  · rename_i t n hc
    split at h
    · cases h
    · rename_i e
      split at h
      · cases h
      · rename_i hi
        exact ⟨t, n, hc, by omega, by omega, hi, h⟩
  · cases h
theorem zox_spec {α : Type} {X : zv_X} {o : Nat} {i : Int32} {k : Int32 → Option α} {y : α} (h : zv_ox X o i k = some y) : vp_in i (zv_old X o).1 ∧ k ((zv_old X o).2 i.toNatClampNeg) = some y := by
  unfold zv_ox at h
  split at h
  · cases h
  · rename_i hi
    exact ⟨hi, h⟩
theorem zoff_I {μ : zv_M} {a : Nat} {f : Nat → Int32} : zoff μ (zv_wA μ a f) a := ⟨rfl, fun j hj => ⟨by simp [zv_wA, va_up, hj], rfl, rfl⟩⟩
theorem zoff_wI {μ : zv_M} {a j : Nat} {x : Int32} : zoff μ (zv_wI μ a j x) a := ⟨rfl, fun j hj => ⟨by simp [zv_wI, va_up, hj], rfl, rfl⟩⟩
theorem zoff_wL {μ : zv_M} {a j : Nat} {x : Int64} : zoff μ (zv_wL μ a j x) a := ⟨rfl, fun j hj => ⟨rfl, by simp [zv_wL, va_up, hj], rfl⟩⟩
theorem zoff_wP {μ : zv_M} {a j : Nat} {x : Option Nat} : zoff μ (zv_wP μ a j x) a := ⟨rfl, fun j hj => ⟨rfl, rfl, by simp [zv_wP, va_up, hj]⟩⟩
/-- the fields behind a write to one of them -/
theorem zfl_set {s0 : Nat} {cA : Nat → ClassId} {μ μ' : zv_M} {a c j : Nat} {v : Value} (h : μ.1[a]? = some (.inr c)) (h0 : μ'.1 = μ.1) (hj : j < (zv_fs c).length) (hv : zfv s0 μ' a ((zv_fs c).getD j 9) j = v) (ho : ∀ i, i ≠ j → i < (zv_fs c).length → zfv s0 μ' a ((zv_fs c).getD i 9) i = zfv s0 μ a ((zv_fs c).getD i 9) i) :
    zw s0 cA μ' a = .inr (c, ((List.range (zv_fs c).length).map (fun j => zfv s0 μ a ((zv_fs c).getD j 9) j)).set j v) := by
  rw [zw_ob (by rw [h0]; exact h)]
  congr 2
  apply List.ext_getElem?
  intro i
  by_cases hi : i < (zv_fs c).length
  · by_cases e : j = i
    · subst e
      rw [List.getElem?_set_self (by simpa using hi), List.getElem?_map, List.getElem?_range hi]
      simp only [Option.map_some, hv]
    · rw [List.getElem?_set_ne e, List.getElem?_map, List.getElem?_map, List.getElem?_range hi]
      simp only [Option.map_some, ho i (Ne.symm e) hi]
  · rw [List.getElem?_eq_none (by simpa using hi), List.getElem?_eq_none (by simpa using hi)]
end ZS2A
section ZS2
variable {X : zv_X} {s0 : Nat} {ov : Nat → Value} {cA : Nat → ClassId} {D : va_G} {n0 z0 : Nat} {res : zv_R} {m : Nat} {p : Program} {l : Launch} {e : Env} {R : Room} {s : State} {mid : MethodId} {args : Array Value} {below : List Frame} {meth : Method} {c : Code} {Q : State → Prop}
variable {pc : Nat} {d : List Nat} {ls : zv_L} {st : List Value} {μ : zv_M} {k : zv_L → List Value → zv_M → Option zv_R}
/-- what the words say at a field access -/
def zlf (m idx c j t : Nat) : Prop := (t < 4 → c < 13 ∧ j < (zv_fs c).length ∧ (zv_fs c).getD j 9 = t ∧ ∀ C T ty, zk_c c C T ty → Cond.fieldLink (zv_cn (zv_mi m).2.2.1) idx C (T j).2.1 (T j).2.2.1 ∈ zv_gw) ∧ (t = 8 → Cond.fieldLink (zv_cn (zv_mi m).2.2.1) idx "java/lang/String" "value" "[B" ∈ zv_gw) ∧ (t = 9 → Cond.fieldLink (zv_cn (zv_mi m).2.2.1) idx "java/lang/String" "coder" "B" ∈ zv_gw)
theorem zs_get1 (C : zCx X s0 ov cA D n0 z0 res m p R s mid args meth c) {idx a b j t : Nat} {H : Heap} {locs : List Loc} {rl : Array Slot} {rest : List Value} {cells slots : Nat} (hd : decode (zv_mb m) pc = .ok (.getfield idx, 3)) (hw : zlf m idx b j t) (ht : t < 4) (hsh : μ.1[a]? = some (.inr b)) (hP : va_P D vwCl (zws s0 cA μ) H)
    (kk : W p l e R s mid args below meth c H locs cells slots Q (F0 mid (pc + 3) rl (zfv s0 μ a t j :: rest))) : W p l e R s mid args below meth c H locs cells slots Q (F0 mid pc rl (.ref (s0 + a) :: rest)) := by
  obtain ⟨hc, hj, htj, hlk⟩ := hw.1 ht
  obtain ⟨Cn, Tn, tyn, K⟩ := zk_all b hc
  refine va_get (D := D) (ci := b) (C := Cn) (T := Tn) (N := (zv_fs b).length) (ref := Cn) C.1 C.2.1 C.2.2.2.2.1 K.2.2.1 C.2.2.2.1 C.2.2.2.2.2.2.2.2.2.2.1 hP a (zws_ob hsh) K.1 j hj (C.2.2.2.2.1 _ (hlk _ _ _ K)) (fun x9 h9 => by rw [K.2.1 j hj] at h9; exact h9) (v := zfv s0 μ a t j) ?_ hd kk
  rw [List.getElem?_map, List.getElem?_range hj]
  simp only [Option.map_some, htj]
theorem zs_getfield (C : zCx X s0 ov cA D n0 z0 res m p R s mid args meth c) {idx : Nat} (hd : decode (zv_mb m) pc = .ok (.getfield idx, 3)) (hw : ∀ b j t, d = [b, j, t] → zlf m idx b j t) (h : zv_op X (.getfield idx) d ls st μ k = some res) (hk : ∀ ls st μ, k ls st μ = some res → zW X s0 ov cA D n0 z0 res m p l e R s mid args below meth c Q (pc + 3) ls st μ) : zW X s0 ov cA D n0 z0 res m p l e R s mid args below meth c Q pc ls st μ := by
  change zv_get d st μ (fun v st => k ls (v :: st) μ) = some res at h
  unfold zv_get at h
  split at h
  · rename_i b j t a st
    have hwq := hw b j t rfl
    obtain ⟨hsh, h⟩ := zob_spec h
    split at h
    · have g := hk _ _ _ h
      exact ⟨g.1, fun H locs rl h1 h2 hP hS hl hL => zs_get1 C hd hwq (by decide) hsh hP (g.2 H locs rl h1 h2 hP hS hl hL)⟩
    · have g := hk _ _ _ h
      exact ⟨g.1, fun H locs rl h1 h2 hP hS hl hL => zs_get1 C hd hwq (by decide) hsh hP (g.2 H locs rl h1 h2 hP hS hl hL)⟩
    · split at h
      · rename_i q hq
        have g := hk _ _ _ h
        refine ⟨g.1, fun H locs rl h1 h2 hP hS hl hL => zs_get1 C hd hwq (by decide) hsh hP ?_⟩
        have e : zfv s0 μ a 2 j = .ref (s0 + q) := by simp [zfv, hq, va_rf]
        rw [e]
        exact g.2 H locs rl h1 h2 hP hS hl hL
      · cases h
    · have g := hk _ _ _ h
      exact ⟨g.1, fun H locs rl h1 h2 hP hS hl hL => zs_get1 C hd hwq (by decide) hsh hP (g.2 H locs rl h1 h2 hP hS hl hL)⟩
    · cases h
  · rename_i b j t i st
    have hwq := hw b j t rfl
    split at h
    · rename_i hi
      obtain ⟨tt, bb, q1, q2, q3, q4, q5, q6⟩ := C.2.2.2.2.2.2.2.2.2.2.2.1.2.1 (i - 20) (by omega)
      have e1 : 20 + (i - 20) = i := by omega
      have e2 : 50 + (i - 20) = i + 30 := by omega
      rw [e1] at q1
      rw [e2] at q2
      split at h
      · have g := hk _ _ _ h
        refine ⟨g.1, fun H locs rl h1 h2 hP hS hl hL => ?_⟩
        have g2 := g.2 H locs rl h1 h2 hP hS hl hL
        have e3 : zc s0 ov (.retAddr i) = .ref tt := q1
        have e4 : zc s0 ov (.retAddr (i + 30)) = .ref bb := q2
        rw [List.map_cons, e4] at g2
        rw [List.map_cons, e3]
        exact vk_getf C.1 C.2.1 q5 hS C.2.2.2.1 (C.2.2.2.2.1 _ (hwq.2.1 rfl)) (fun _ h9 => h9) hd g2
      · have g := hk _ _ _ h
        refine ⟨g.1, fun H locs rl h1 h2 hP hS hl hL => ?_⟩
        have g2 := g.2 H locs rl h1 h2 hP hS hl hL
        have e3 : zc s0 ov (.retAddr i) = .ref tt := q1
        rw [List.map_cons, e3]
        exact vk_getf C.1 C.2.1 q4 hS C.2.2.2.1 (C.2.2.2.2.1 _ (hwq.2.2 rfl)) (fun _ h9 => h9) hd g2
      · cases h
    · cases h
  · cases h
/-- and at a write: the field is no final one, or its own constructor writes it -/
def zlp (m b j : Nat) : Prop := ∀ C T ty, zk_c b C T ty → (T j).2.2.2 = false ∨ ((T j).2.2.2 = true ∧ (zv_mi m).2.2.2.2.2.1 = 2 ∧ C = zv_cn (zv_mi m).2.2.1)
theorem zs_put1 (C : zCx X s0 ov cA D n0 z0 res m p R s mid args meth c) {idx a b j t : Nat} {H : Heap} {locs : List Loc} {rl : Array Slot} {rest : List Value} {cells slots : Nat} {μ' : zv_M} {v : Value} (hd : decode (zv_mb m) pc = .ok (.putfield idx, 3)) (hw : zlf m idx b j t) (hp : zlp m b j) (ht : t < 4) (hsh : μ.1[a]? = some (.inr b)) (hP : va_P D vwCl (zws s0 cA μ) H) (hS : va_S (fun q => s0 ≤ q) s.heap H locs)
    (hv : ∀ ty, zty t ty → narrow ty v = v ∧ fits ty v = true) (hoff : zoff μ μ' a) (hval : zfv s0 μ' a t j = v) (hoth : ∀ i, i ≠ j → ∀ t', zfv s0 μ' a t' i = zfv s0 μ a t' i)
    (kk : ∀ (H1 : Heap) (locs1 : List Loc), va_P D vwCl (zws s0 cA μ') H1 → va_S (fun q => s0 ≤ q) s.heap H1 locs1 → W p l e R s mid args below meth c H1 locs1 cells slots Q (F0 mid (pc + 3) rl rest)) : W p l e R s mid args below meth c H locs cells slots Q (F0 mid pc rl (v :: .ref (s0 + a) :: rest)) := by
  obtain ⟨hc, hj, htj, hlk⟩ := hw.1 ht
  obtain ⟨Cn, Tn, tyn, K⟩ := zk_all b hc
  have hty : zty t (tyn j) := by
    have := K.2.2.2.2.2.1 j hj
    rwa [htj] at this
  obtain ⟨hn, hf⟩ := hv _ hty
  have hset := zws_set (cA := cA) hoff (zfl_set (cA := cA) (v := v) hsh hoff.1 hj (by rw [htj]; exact hval) (fun i h1 _ => hoth i h1 _))
  rcases hp _ _ _ K with hfin | ⟨hfin, hkd, hown⟩
  · refine va_put (D := D) (ci := b) (C := Cn) (T := Tn) (N := (zv_fs b).length) (ref := Cn) C.1 C.2.1 C.2.2.2.2.1 K.2.2.1 tyn K.2.2.2.2.1 K.2.2.2.1 C.2.2.2.1 C.2.2.2.2.2.2.2.2.2.2.1 hP zws_D hS a (zws_ob hsh) K.1 j hj (C.2.2.2.2.1 _ (hlk _ _ _ K)) (fun x9 h9 => by rw [K.2.1 j hj] at h9; exact h9) hfin (K.2.2.2.2.1 j hj) hn hf (by simpa using hj) hd (fun H1 locs1 hP1 _ hS1 => kk H1 locs1 ?_ hS1)
    rw [← hset]
    exact hP1
  · refine va_putF (D := D) (ci := b) (C := Cn) (T := Tn) (N := (zv_fs b).length) (ref := Cn) C.1 C.2.1 C.2.2.2.2.1 K.2.2.1 tyn K.2.2.2.2.1 K.2.2.2.1 C.2.2.2.1 C.2.2.2.2.2.2.2.2.2.2.1 hP zws_D hS a (zws_ob hsh) K.1 j hj (C.2.2.2.2.1 _ (hlk _ _ _ K)) (fun x9 h9 => by rw [K.2.1 j hj] at h9; exact h9) hfin (C.2.2.2.2.2.2.2.1 hkd) (by rw [K.2.1 j hj]; exact hown) (K.2.2.2.2.1 j hj) hn hf (by simpa using hj) hd (fun H1 locs1 hP1 _ hS1 => kk H1 locs1 ?_ hS1)
    rw [← hset]
    exact hP1
theorem zfv_wI {s0 : Nat} {μ : zv_M} {a j i t : Nat} {x : Int32} (h : i ≠ j) : zfv s0 (zv_wI μ a j x) a t i = zfv s0 μ a t i := by
  unfold zfv
  split <;> simp [zv_wI, va_up, upd, h]
theorem zfv_wL {s0 : Nat} {μ : zv_M} {a j i t : Nat} {x : Int64} (h : i ≠ j) : zfv s0 (zv_wL μ a j x) a t i = zfv s0 μ a t i := by
  unfold zfv
  split <;> simp [zv_wL, va_up, vp_updL, h]
theorem zfv_wP {s0 : Nat} {μ : zv_M} {a j i t : Nat} {x : Option Nat} (h : i ≠ j) : zfv s0 (zv_wP μ a j x) a t i = zfv s0 μ a t i := by
  unfold zfv
  split <;> simp [zv_wP, va_up, h]
theorem zs_putfield (C : zCx X s0 ov cA D n0 z0 res m p R s mid args meth c) {idx : Nat} (hd : decode (zv_mb m) pc = .ok (.putfield idx, 3)) (hw : ∀ b j t, d = [b, j, t] → zlf m idx b j t ∧ zlp m b j) (h : zv_op X (.putfield idx) d ls st μ k = some res) (hk : ∀ ls st μ, k ls st μ = some res → zW X s0 ov cA D n0 z0 res m p l e R s mid args below meth c Q (pc + 3) ls st μ) : zW X s0 ov cA D n0 z0 res m p l e R s mid args below meth c Q pc ls st μ := by
  change zv_put d st μ (fun st μ => k ls st μ) = some res at h
  unfold zv_put at h
  split at h
  · rename_i b j t x a st
    have hwq := hw b j t rfl
    obtain ⟨hsh, h⟩ := zob_spec h
    split at h
    · have g := hk _ _ _ h
      exact ⟨g.1, fun H locs rl h1 h2 hP hS hl hL => zs_put1 C hd hwq.1 hwq.2 (by decide) hsh hP hS (fun ty hty => by
        rcases hty with ⟨-, rfl⟩ | ⟨h9, -⟩ | ⟨h9, -⟩ | ⟨h9, -⟩
        · exact ⟨rfl, rfl⟩
        · cases h9
        · cases h9
        · cases h9) zoff_wI (by simp [zfv, zv_wI, va_up, upd, zc]) (fun i hi t' => zfv_wI hi) (fun H1 locs1 hP1 hS1 => g.2 H1 locs1 rl h1 h2 hP1 hS1 hl hL)⟩
    · split at h
      · rename_i hx
        have g := hk _ _ _ h
        exact ⟨g.1, fun H locs rl h1 h2 hP hS hl hL => zs_put1 C hd hwq.1 hwq.2 (by decide) hsh hP hS (fun ty hty => by
          rcases hty with ⟨h9, -⟩ | ⟨h9, -⟩ | ⟨-, rfl⟩ | ⟨h9, -⟩
          · cases h9
          · cases h9
          · rcases hx with rfl | rfl <;> exact ⟨rfl, rfl⟩
          · cases h9) zoff_wI (by simp [zfv, zv_wI, va_up, upd, zc]) (fun i hi t' => zfv_wI hi) (fun H1 locs1 hP1 hS1 => g.2 H1 locs1 rl h1 h2 hP1 hS1 hl hL)⟩
      · cases h
    · cases h
  · rename_i b j t x a st
    have hwq := hw b j t rfl
    obtain ⟨hsh, h⟩ := zob_spec h
    split at h
    · have g := hk _ _ _ h
      exact ⟨g.1, fun H locs rl h1 h2 hP hS hl hL => zs_put1 C hd hwq.1 hwq.2 (by decide) hsh hP hS (fun ty hty => by
        rcases hty with ⟨h9, -⟩ | ⟨-, rfl⟩ | ⟨h9, -⟩ | ⟨h9, -⟩
        · cases h9
        · exact ⟨rfl, rfl⟩
        · cases h9
        · cases h9) zoff_wL (by simp [zfv, zv_wL, va_up, vp_updL, zc]) (fun i hi t' => zfv_wL hi) (fun H1 locs1 hP1 hS1 => g.2 H1 locs1 rl h1 h2 hP1 hS1 hl hL)⟩
    · cases h
  · rename_i b j t q a st
    have hwq := hw b j t rfl
    obtain ⟨hsh, h⟩ := zob_spec h
    split at h
    · have g := hk _ _ _ h
      exact ⟨g.1, fun H locs rl h1 h2 hP hS hl hL => zs_put1 C hd hwq.1 hwq.2 (by decide) hsh hP hS (fun ty hty => by
        rcases hty with ⟨h9, -⟩ | ⟨h9, -⟩ | ⟨h9, -⟩ | ⟨-, h9⟩
        · cases h9
        · cases h9
        · cases h9
        · rcases h9 with ⟨n, rfl⟩ | ⟨u, rfl⟩ <;> exact ⟨rfl, rfl⟩) zoff_wP (by simp [zfv, zv_wP, va_up, va_rf, zc]) (fun i hi t' => zfv_wP hi) (fun H1 locs1 hP1 hS1 => g.2 H1 locs1 rl h1 h2 hP1 hS1 hl hL)⟩
    · cases h
  · cases h
theorem zs_iaload (C : zCx X s0 ov cA D n0 z0 res m p R s mid args meth c) (hd : decode (zv_mb m) pc = .ok (.iaload, 1)) (h : zv_op X (.iaload) d ls st μ k = some res) (hk : ∀ ls st μ, k ls st μ = some res → zW X s0 ov cA D n0 z0 res m p l e R s mid args below meth c Q (pc + 1) ls st μ) : zW X s0 ov cA D n0 z0 res m p l e R s mid args below meth c Q pc ls st μ := by
  unfold zv_op at h
  dsimp only at h
  split at h
  · rename_i i a st
    obtain ⟨n, hsh, hin, h⟩ := zix_spec h
    have g := hk _ _ _ h
    exact ⟨g.1, fun H locs rl h1 h2 hP hS hl hL => va_iald C.1 C.2.1 C.2.2.2.2.2.2.2.2.2.2.1 hP a 0 (zws_ar hsh) rfl hin hd (g.2 H locs rl h1 h2 hP hS hl hL)⟩
  · rename_i i o st
    split at h
    · rename_i ho
      obtain ⟨hin, h⟩ := zox_spec h
      have g := hk _ _ _ h
      obtain ⟨t, q1, q2⟩ := C.2.2.2.2.2.2.2.2.2.2.2.1.1 o ho
      refine ⟨g.1, fun H locs rl h1 h2 hP hS hl hL => ?_⟩
      have e3 : zc s0 ov (.retAddr o) = .ref t := q1
      rw [List.map_cons, List.map_cons, e3]
      exact va_ti C.1 C.2.1 q2 hS hin rfl hd (g.2 H locs rl h1 h2 hP hS hl hL)
    · cases h
  · cases h
theorem zs_baload (C : zCx X s0 ov cA D n0 z0 res m p R s mid args meth c) (hd : decode (zv_mb m) pc = .ok (.baload, 1)) (h : zv_op X (.baload) d ls st μ k = some res) (hk : ∀ ls st μ, k ls st μ = some res → zW X s0 ov cA D n0 z0 res m p l e R s mid args below meth c Q (pc + 1) ls st μ) : zW X s0 ov cA D n0 z0 res m p l e R s mid args below meth c Q pc ls st μ := by
  unfold zv_op at h
  dsimp only at h
  split at h
  · rename_i i a st
    split at h
    · rename_i t
      split at h
      · rename_i ht
        obtain ⟨n, hsh, hin, h⟩ := zix_spec h
        have g := hk _ _ _ h
        rcases ht with rfl | rfl
        · exact ⟨g.1, fun H locs rl h1 h2 hP hS hl hL => va_bald C.1 C.2.1 C.2.2.2.2.2.2.2.2.2.2.1 hP a 2 (zws_ar hsh) rfl hin hd (g.2 H locs rl h1 h2 hP hS hl hL)⟩
        · exact ⟨g.1, fun H locs rl h1 h2 hP hS hl hL => va_zald C.1 C.2.1 C.2.2.2.2.2.2.2.2.2.2.1 hP a 3 (zws_ar hsh) rfl hin hd (g.2 H locs rl h1 h2 hP hS hl hL)⟩
      · cases h
    · cases h
  · rename_i i o st
    split at h
    · rename_i ho
      obtain ⟨hin, h⟩ := zox_spec h
      have g := hk _ _ _ h
      obtain ⟨t, b, -, q1, -, -, -, q2⟩ := C.2.2.2.2.2.2.2.2.2.2.2.1.2.1 (o - 50) (by omega)
      have e1 : 50 + (o - 50) = o := by omega
      rw [e1] at q1 q2
      refine ⟨g.1, fun H locs rl h1 h2 hP hS hl hL => ?_⟩
      have e3 : zc s0 ov (.retAddr o) = .ref b := q1
      rw [List.map_cons, List.map_cons, e3]
      exact va_tb C.1 C.2.1 q2 hS hin rfl hd (g.2 H locs rl h1 h2 hP hS hl hL)
    · cases h
  · cases h
theorem zs_laload (C : zCx X s0 ov cA D n0 z0 res m p R s mid args meth c) (hd : decode (zv_mb m) pc = .ok (.laload, 1)) (h : zv_op X (.laload) d ls st μ k = some res) (hk : ∀ ls st μ, k ls st μ = some res → zW X s0 ov cA D n0 z0 res m p l e R s mid args below meth c Q (pc + 1) ls st μ) : zW X s0 ov cA D n0 z0 res m p l e R s mid args below meth c Q pc ls st μ := by
  unfold zv_op at h
  dsimp only at h
  split at h
  · rename_i i a st
    obtain ⟨n, hsh, hin, h⟩ := zix_spec h
    have g := hk _ _ _ h
    exact ⟨g.1, fun H locs rl h1 h2 hP hS hl hL => va_lald C.1 C.2.1 C.2.2.2.2.2.2.2.2.2.2.1 hP a 1 (zws_ar hsh) rfl hin hd (g.2 H locs rl h1 h2 hP hS hl hL)⟩
  · cases h
theorem zs_aaload (C : zCx X s0 ov cA D n0 z0 res m p R s mid args meth c) (hd : decode (zv_mb m) pc = .ok (.aaload, 1)) (h : zv_op X (.aaload) d ls st μ k = some res) (hk : ∀ ls st μ, k ls st μ = some res → zW X s0 ov cA D n0 z0 res m p l e R s mid args below meth c Q (pc + 1) ls st μ) : zW X s0 ov cA D n0 z0 res m p l e R s mid args below meth c Q pc ls st μ := by
  unfold zv_op at h
  dsimp only at h
  split at h
  · rename_i i a st
    obtain ⟨t, n, hsh, ht1, ht2, hin, h⟩ := ziq_spec h
    split at h
    · rename_i q hq
      have g := hk _ _ _ h
      refine ⟨g.1, fun H locs rl h1 h2 hP hS hl hL => ?_⟩
      have hc := hP a _ (zws_ar hsh)
      have ed : zdt s0 μ a t = .inr (.inr (.inr (.inr (fun j => (μ.2.2.2 a j).map (fun x => s0 + x))))) := by
        unfold zdt
        rw [if_neg (by omega), if_pos ht1]
      rw [ed] at hc
      have hlt : i.toNatClampNeg < n := Nat.not_le.mp fun q => hin (Or.inr q)
      have hr : ∃ ty, (zv_tys cA)[t]? = some (cA t, ty) ∧ ty.isReference = true := by
        rcases (show t = 4 ∨ t = 5 ∨ t = 6 by omega) with rfl | rfl | rfl <;> exact ⟨_, rfl, rfl⟩
      obtain ⟨ty, ht, hrf⟩ := hr
      refine W.aald (v := .ref (s0 + q)) C.1 C.2.1 hc ((C.2.2.2.2.2.2.2.2.2.2.1.2 t _ ht).1 n (fun j => va_rf ((μ.2.2.2 a j).map (fun x => s0 + x)))) hrf (fun q => by cases q) (by show ¬ (i < 0 ∨ (arrV _ _ _).slots.size ≤ _); rw [arrV_size]; exact hin) (by show (arrV _ _ _).slots[_]? = _; rw [arrV_read _ _ hlt]; dsimp only; rw [hq]; rfl) rfl rfl hd (g.2 H locs rl h1 h2 hP hS hl hL)
    · cases h
  · cases h
theorem zs_iastore (C : zCx X s0 ov cA D n0 z0 res m p R s mid args meth c) (hd : decode (zv_mb m) pc = .ok (.iastore, 1)) (h : zv_op X (.iastore) d ls st μ k = some res) (hk : ∀ ls st μ, k ls st μ = some res → zW X s0 ov cA D n0 z0 res m p l e R s mid args below meth c Q (pc + 1) ls st μ) : zW X s0 ov cA D n0 z0 res m p l e R s mid args below meth c Q pc ls st μ := by
  unfold zv_op at h
  dsimp only at h
  split at h
  · rename_i x i a st
    obtain ⟨n, hsh, hin, h⟩ := zix_spec h
    have g := hk _ _ _ h
    refine ⟨g.1, fun H locs rl h1 h2 hP hS hl hL => va_iast C.1 C.2.1 C.2.2.2.2.2.2.2.2.2.2.1 hP zws_D hS a 0 (zws_ar hsh) rfl hin hd (fun H1 locs1 hP1 _ hS1 => g.2 H1 locs1 rl h1 h2 ?_ hS1 hl hL)⟩
    rw [← zws_set (e := .inl (cA 0, n, .inl (upd (μ.2.1 a) i.toNatClampNeg x))) zoff_wI (by rw [zw_ar (by exact hsh)]; simp [zdt, zv_wI, va_up])]
    exact hP1
  · cases h
theorem zs_bastore (C : zCx X s0 ov cA D n0 z0 res m p R s mid args meth c) (hd : decode (zv_mb m) pc = .ok (.bastore, 1)) (h : zv_op X (.bastore) d ls st μ k = some res) (hk : ∀ ls st μ, k ls st μ = some res → zW X s0 ov cA D n0 z0 res m p l e R s mid args below meth c Q (pc + 1) ls st μ) : zW X s0 ov cA D n0 z0 res m p l e R s mid args below meth c Q pc ls st μ := by
  unfold zv_op at h
  dsimp only at h
  split at h
  · rename_i x i a st t
    split at h
    · rename_i ht
      obtain ⟨n, hsh, hin, h⟩ := zix_spec h
      have g := hk _ _ _ h
      rcases ht with rfl | rfl
      · refine ⟨g.1, fun H locs rl h1 h2 hP hS hl hL => va_bast C.1 C.2.1 C.2.2.2.2.2.2.2.2.2.2.1 hP zws_D hS a 2 (zws_ar hsh) rfl hin hd (fun H1 locs1 hP1 _ hS1 => g.2 H1 locs1 rl h1 h2 ?_ hS1 hl hL)⟩
        rw [← zws_set (e := .inl (cA 2, n, .inl (upd (μ.2.1 a) i.toNatClampNeg (vp_nar .byte x)))) zoff_wI (by rw [zw_ar (by exact hsh)]; simp [zdt, zv_wI, va_up, zv_nar])]
        exact hP1
      · refine ⟨g.1, fun H locs rl h1 h2 hP hS hl hL => va_zast C.1 C.2.1 C.2.2.2.2.2.2.2.2.2.2.1 hP zws_D hS a 3 (zws_ar hsh) rfl hin hd (fun H1 locs1 hP1 _ hS1 => g.2 H1 locs1 rl h1 h2 ?_ hS1 hl hL)⟩
        rw [← zws_set (e := .inl (cA 3, n, .inl (upd (μ.2.1 a) i.toNatClampNeg (vp_nar .boolean x)))) zoff_wI (by rw [zw_ar (by exact hsh)]; simp [zdt, zv_wI, va_up, zv_nar])]
        exact hP1
    · cases h
  · cases h
theorem zs_lastore (C : zCx X s0 ov cA D n0 z0 res m p R s mid args meth c) (hd : decode (zv_mb m) pc = .ok (.lastore, 1)) (h : zv_op X (.lastore) d ls st μ k = some res) (hk : ∀ ls st μ, k ls st μ = some res → zW X s0 ov cA D n0 z0 res m p l e R s mid args below meth c Q (pc + 1) ls st μ) : zW X s0 ov cA D n0 z0 res m p l e R s mid args below meth c Q pc ls st μ := by
  unfold zv_op at h
  dsimp only at h
  split at h
  · rename_i x i a st
    obtain ⟨n, hsh, hin, h⟩ := zix_spec h
    have g := hk _ _ _ h
    refine ⟨g.1, fun H locs rl h1 h2 hP hS hl hL => va_last C.1 C.2.1 C.2.2.2.2.2.2.2.2.2.2.1 hP zws_D hS a 1 (zws_ar hsh) rfl hin hd (fun H1 locs1 hP1 _ hS1 => g.2 H1 locs1 rl h1 h2 ?_ hS1 hl hL)⟩
    rw [← zws_set (e := .inl (cA 1, n, .inr (.inl (vp_updL (μ.2.2.1 a) i.toNatClampNeg x)))) zoff_wL (by rw [zw_ar (by exact hsh)]; simp [zdt, zv_wL, va_up])]
    exact hP1
  · cases h
theorem zs_aastore (C : zCx X s0 ov cA D n0 z0 res m p R s mid args meth c) (hd : decode (zv_mb m) pc = .ok (.aastore, 1)) (h : zv_op X (.aastore) d ls st μ k = some res) (hk : ∀ ls st μ, k ls st μ = some res → zW X s0 ov cA D n0 z0 res m p l e R s mid args below meth c Q (pc + 1) ls st μ) : zW X s0 ov cA D n0 z0 res m p l e R s mid args below meth c Q pc ls st μ := by
  unfold zv_op at h
  dsimp only at h
  split at h
  · rename_i q i a st
    obtain ⟨n, hsh, hin, h⟩ := zix_spec h
    obtain ⟨hsq, h⟩ := zob_spec h
    have g := hk _ _ _ h
    refine ⟨g.1, fun H locs rl h1 h2 hP hS hl hL => va_astq (r := (RX5, TX5, 8)) C.1 C.2.1 C.2.2.2.2.2.2.2.2.2.2.1 hP zws_D hS a 4 q 5 (zws_ar hsh) rfl (zws_ob hsq) rfl hin hd (fun H1 locs1 hP1 _ hS1 => g.2 H1 locs1 rl h1 h2 ?_ hS1 hl hL)⟩
    rw [← zws_set (e := .inl (cA 4, n, .inr (.inr (.inr (.inr (va_up (fun j => (μ.2.2.2 a j).map (fun x => s0 + x)) i.toNatClampNeg (some (s0 + q)))))))) zoff_wP (by
      rw [zw_ar (by exact hsh)]
      have e : (fun j => ((zv_wP μ a i.toNatClampNeg (some q)).2.2.2 a j).map (fun x => s0 + x)) = va_up (fun j => (μ.2.2.2 a j).map (fun x => s0 + x)) i.toNatClampNeg (some (s0 + q)) := by
        funext j
        by_cases hj : j = i.toNatClampNeg
        · simp [zv_wP, va_up, hj]
        · simp [zv_wP, va_up, hj]
      simp only [zdt]
      rw [if_neg (by decide), if_pos (by decide), e])]
    exact hP1
  · cases h
theorem zs_arraylength (C : zCx X s0 ov cA D n0 z0 res m p R s mid args meth c) (hd : decode (zv_mb m) pc = .ok (.arraylength, 1)) (h : zv_op X (.arraylength) d ls st μ k = some res) (hk : ∀ ls st μ, k ls st μ = some res → zW X s0 ov cA D n0 z0 res m p l e R s mid args below meth c Q (pc + 1) ls st μ) : zW X s0 ov cA D n0 z0 res m p l e R s mid args below meth c Q pc ls st μ := by
  unfold zv_op at h
  dsimp only at h
  split at h
  · rename_i a st
    split at h
    · rename_i t n hsh
      split at h
      · rename_i ht
        have g := hk _ _ _ h
        refine ⟨g.1, fun H locs rl h1 h2 hP hS hl hL => ?_⟩
        have hr : ∃ ty, (zv_tys cA)[t]? = some (cA t, ty) := by
          rcases (show t = 0 ∨ t = 1 ∨ t = 2 ∨ t = 3 ∨ t = 4 ∨ t = 5 ∨ t = 6 by omega) with rfl | rfl | rfl | rfl | rfl | rfl | rfl <;> exact ⟨_, rfl⟩
        obtain ⟨ty, ht⟩ := hr
        exact va_alen C.1 C.2.1 C.2.2.2.2.2.2.2.2.2.2.1 hP a t (zws_ar hsh) ht rfl hd (g.2 H locs rl h1 h2 hP hS hl hL)
      · cases h
    · cases h
  · rename_i o st
    split at h
    · rename_i ho
      have g := hk _ _ _ h
      refine ⟨g.1, fun H locs rl h1 h2 hP hS hl hL => ?_⟩
      have g2 := g.2 H locs rl h1 h2 hP hS hl hL
      rcases ho with ho | ho
      · obtain ⟨t, q1, q2⟩ := C.2.2.2.2.2.2.2.2.2.2.2.1.1 o ho
        have e3 : zc s0 ov (.retAddr o) = .ref t := q1
        rw [List.map_cons, e3]
        exact va_tlen C.1 C.2.1 q2 hS rfl hd g2
      · obtain ⟨t, b, -, q1, -, -, -, q2⟩ := C.2.2.2.2.2.2.2.2.2.2.2.1.2.1 (o - 50) (by omega)
        have e1 : 50 + (o - 50) = o := by omega
        rw [e1] at q1 q2
        have e3 : zc s0 ov (.retAddr o) = .ref b := q1
        rw [List.map_cons, e3]
        exact va_tlen C.1 C.2.1 q2 hS rfl hd g2
    · cases h
  · cases h
end ZS2
end
section
section ZS3
variable {X : zv_X} {s0 : Nat} {ov : Nat → Value} {cA : Nat → ClassId} {D : va_G} {n0 z0 : Nat} {res : zv_R} {m : Nat} {p : Program} {l : Launch} {e : Env} {R : Room} {s : State} {mid : MethodId} {args : Array Value} {below : List Frame} {meth : Method} {c : Code} {Q : State → Prop}
variable {pc : Nat} {d : List Nat} {ls : zv_L} {st : List Value} {μ : zv_M} {k : zv_L → List Value → zv_M → Option zv_R}
def zlc (m idx : Nat) (d : List Nat) : Prop := (∀ v, d = [0, v] → Cond.constant (zv_cn (zv_mi m).2.2.1) idx (Int32.ofNat v) ∈ zv_gw) ∧ ∀ i, d = [1, i] → ∃ tx, ((zv_mi m).2.2.1, idx, tx, i) ∈ zv_sr
theorem zs_ldc (C : zCx X s0 ov cA D n0 z0 res m p R s mid args meth c) {idx : Nat} (hd : decode (zv_mb m) pc = .ok (.ldc idx, 2)) (hw : zlc m idx d) (h : zv_op X (.ldc idx) d ls st μ k = some res) (hk : ∀ ls st μ, k ls st μ = some res → zW X s0 ov cA D n0 z0 res m p l e R s mid args below meth c Q (pc + 2) ls st μ) : zW X s0 ov cA D n0 z0 res m p l e R s mid args below meth c Q pc ls st μ := by
  change zv_ldc d (fun v => k ls (v :: st) μ) = some res at h
  unfold zv_ldc at h
  split at h
  · rename_i v
    have g := hk _ _ _ h
    exact ⟨g.1, fun H locs rl h1 h2 hP hS hl hL => lv_ldc C.1 C.2.1 C.2.2.2.1 (C.2.2.2.2.1 _ (hw.1 v rfl)) hd (g.2 H locs rl h1 h2 hP hS hl hL)⟩
  · rename_i i
    have g := hk _ _ _ h
    obtain ⟨tx, htx⟩ := hw.2 i rfl
    obtain ⟨a, q1, q2⟩ := C.2.2.2.2.2.2.2.2.2.2.2.1.2.2.2.1 _ htx
    refine ⟨g.1, fun H locs rl h1 h2 hP hS hl hL => ?_⟩
    have g2 := g.2 H locs rl h1 h2 hP hS hl hL
    have e3 : zc s0 ov (.retAddr i) = .ref a := q1
    rw [List.map_cons, e3] at g2
    exact va_ldcS C.1 C.2.1 C.2.2.2.1 q2 hd g2
  · cases h
theorem zs_ldc_w (C : zCx X s0 ov cA D n0 z0 res m p R s mid args meth c) {idx : Nat} (hd : decode (zv_mb m) pc = .ok (.ldc_w idx, 3)) (hw : zlc m idx d) (hw1 : ∀ i, d ≠ [1, i]) (h : zv_op X (.ldc_w idx) d ls st μ k = some res) (hk : ∀ ls st μ, k ls st μ = some res → zW X s0 ov cA D n0 z0 res m p l e R s mid args below meth c Q (pc + 3) ls st μ) : zW X s0 ov cA D n0 z0 res m p l e R s mid args below meth c Q pc ls st μ := by
  change zv_ldc d (fun v => k ls (v :: st) μ) = some res at h
  unfold zv_ldc at h
  split at h
  · rename_i v
    have g := hk _ _ _ h
    exact ⟨g.1, fun H locs rl h1 h2 hP hS hl hL => lv_ldcw C.1 C.2.1 C.2.2.2.1 (C.2.2.2.2.1 _ (hw.1 v rfl)) hd (g.2 H locs rl h1 h2 hP hS hl hL)⟩
  · rename_i i
    exact absurd rfl (hw1 i)
  · cases h
theorem zs_ldc2_w (C : zCx X s0 ov cA D n0 z0 res m p R s mid args meth c) {idx : Nat} (hd : decode (zv_mb m) pc = .ok (.ldc2_w idx, 3)) (hw : ∀ v, d = [v] → Cond.constantLong (zv_cn (zv_mi m).2.2.1) idx (Int64.ofNat v) ∈ zv_gw) (h : zv_op X (.ldc2_w idx) d ls st μ k = some res) (hk : ∀ ls st μ, k ls st μ = some res → zW X s0 ov cA D n0 z0 res m p l e R s mid args below meth c Q (pc + 3) ls st μ) : zW X s0 ov cA D n0 z0 res m p l e R s mid args below meth c Q pc ls st μ := by
  unfold zv_op at h
  dsimp only at h
  split at h
  · rename_i v
    have g := hk _ _ _ h
    exact ⟨g.1, fun H locs rl h1 h2 hP hS hl hL => lv_ldc2 C.1 C.2.1 C.2.2.2.1 (C.2.2.2.2.1 _ (hw v rfl)) hd (g.2 H locs rl h1 h2 hP hS hl hL)⟩
  · cases h
def zsn (i : Nat) : String × String × String := match i with
  | 1 => ("GuessedPlace", "FIRST_TOLD", "[I")
  | 2 => ("GuessedPlace", "LEAST_TOLD", "[I")
  | 3 => ("GuessedPlace", "MOST_TOLD", "[I")
  | 90 => ("jdk/internal/util/Preconditions", "SIOOBE_FORMATTER", "Ljava/util/function/BiFunction;")
  | _ => ("java/lang/String", "COMPACT_STRINGS", "Z")
def zlg (m idx i : Nat) : Prop := Cond.fieldLink (zv_cn (zv_mi m).2.2.1) idx (zsn i).1 (zsn i).2.1 (zsn i).2.2 ∈ zv_gw ∨ ∃ host, Cond.fieldLinkNest (zv_cn (zv_mi m).2.2.1) idx (zsn i).1 (zsn i).2.1 (zsn i).2.2 host ∈ zv_nw
theorem zs_gets1 (C : zCx X s0 ov cA D n0 z0 res m p R s mid args meth c) {idx i : Nat} {v : Value} {H : Heap} {locs : List Loc} {rl : Array Slot} {rest : List Value} {cells slots : Nat} (hd : decode (zv_mb m) pc = .ok (.getstatic idx, 3)) (hw : zlg m idx i) (hZ : va_Z (zsn i).1 (zsn i).2.1 (zsn i).2.2 v (fun q => s0 ≤ q) s s.heap) (hS : va_S (fun q => s0 ≤ q) s.heap H locs)
    (kk : W p l e R s mid args below meth c H locs cells slots Q (F0 mid (pc + 3) rl (v :: rest))) : W p l e R s mid args below meth c H locs cells slots Q (F0 mid pc rl rest) := by
  rcases hw with hw | ⟨host, hw⟩
  · exact va_gets C.1 C.2.1 hZ hS C.2.2.2.1 (C.2.2.2.2.1 _ hw) (fun _ h9 => h9) hd kk
  · exact va_getsN C.1 C.2.1 hZ hS C.2.2.2.1 (va_Nw.use rfl (C.2.2.2.2.2.2.2.2.2.2.2.1.2.2.2.2.1 _ hw)) (fun _ h9 => h9) hd kk
theorem zs_getstatic (C : zCx X s0 ov cA D n0 z0 res m p R s mid args meth c) {idx : Nat} (hd : decode (zv_mb m) pc = .ok (.getstatic idx, 3)) (hw : (∀ i, d = [0, i] → (i = 1 ∨ i = 2 ∨ i = 3 ∨ i = 90) ∧ zlg m idx i) ∧ ∀ v, d = [1, v] → v = 1 ∧ zlg m idx 91) (h : zv_op X (.getstatic idx) d ls st μ k = some res) (hk : ∀ ls st μ, k ls st μ = some res → zW X s0 ov cA D n0 z0 res m p l e R s mid args below meth c Q (pc + 3) ls st μ) : zW X s0 ov cA D n0 z0 res m p l e R s mid args below meth c Q pc ls st μ := by
  unfold zv_op at h
  dsimp only at h
  split at h
  · rename_i i
    have g := hk _ _ _ h
    obtain ⟨hi, hq⟩ := hw.1 i rfl
    obtain ⟨z1, z2, z3, z4, z5⟩ := C.2.2.2.2.2.2.2.2.2.2.2.1.2.2.1
    refine ⟨g.1, fun H locs rl h1 h2 hP hS hl hL => ?_⟩
    have g2 := g.2 H locs rl h1 h2 hP hS hl hL
    rcases hi with rfl | rfl | rfl | rfl
    · exact zs_gets1 C hd hq z1 hS g2
    · exact zs_gets1 C hd hq z2 hS g2
    · exact zs_gets1 C hd hq z3 hS g2
    · exact zs_gets1 C hd hq z5 hS g2
  · rename_i v
    have g := hk _ _ _ h
    obtain ⟨rfl, hq⟩ := hw.2 v rfl
    obtain ⟨z1, z2, z3, z4, z5⟩ := C.2.2.2.2.2.2.2.2.2.2.2.1.2.2.1
    exact ⟨g.1, fun H locs rl h1 h2 hP hS hl hL => zs_gets1 C hd hq z4 hS (g.2 H locs rl h1 h2 hP hS hl hL)⟩
  · cases h
theorem W_have {p : Program} {l : Launch} {e : Env} {R : Room} {s : State} {m : MethodId} {args : Array Value} {below : List Frame} {meth : Method} {c : Code} {H : Heap} {locs : List Loc} {cells slots : Nat} {Q : State → Prop} {g : JFrame} {P : Prop} (h : ∀ T, T.heap = H → Stand p l e R s m args below meth c T locs cells slots → P) (k : P → W p l e R s m args below meth c H locs cells slots Q g) : W p l e R s m args below meth c H locs cells slots Q g := fun T hT X => k (h T hT X) T hT X
theorem zpin {s0 : Nat} {cA : Nat → ClassId} {D : va_G} {μ : zv_M} {q : Nat} {e : va_E} {H1 : Heap} (hP1 : va_P D vwCl (zws s0 cA μ ++ [(q, e)]) H1) (hD1 : va_D (fun q => s0 ≤ q) (zws s0 cA μ ++ [(q, e)])) (hsz : H1.size ≤ s0 + μ.1.length + 1) : q = s0 + μ.1.length := by
  have hn : (zws s0 cA μ ++ [(q, e)])[μ.1.length]? = some (q, e) := by
    rw [List.getElem?_append_right (by rw [zws_len]; exact Nat.le_refl _), zws_len, Nat.sub_self]
    rfl
  have h1 : s0 ≤ q := hD1.2 _ _ hn
  have h2 : q < H1.size := (hP1 _ _ hn).lt
  by_cases h3 : q = s0 + μ.1.length
  · exact h3
  · exfalso
    have hj : q - s0 < μ.1.length := by omega
    have hg : (zws s0 cA μ ++ [(q, e)])[q - s0]? = some (s0 + (q - s0), zw s0 cA μ (q - s0)) := by
      rw [List.getElem?_append_left (by rw [zws_len]; exact hj), zws_get hj]
    have := hD1.1 (q - s0) μ.1.length _ _ hg hn (by show s0 + (q - s0) = q; omega)
    omega
theorem zmk_1 {μ : zv_M} {sh : (Nat × Nat) ⊕ Nat} : (zv_mk μ sh).1 = μ.1 ++ [sh] := rfl
theorem zmk_len {μ : zv_M} {sh : (Nat × Nat) ⊕ Nat} : (zv_mk μ sh).1.length = μ.1.length + 1 := by rw [zmk_1, List.length_append]; rfl
theorem zmk_sl {μ : zv_M} {sh : (Nat × Nat) ⊕ Nat} : zsl (zv_mk μ sh).1 = zsl μ.1 + zsz sh := by rw [zmk_1, zsl_app]; rfl
theorem zmk_at {μ : zv_M} {sh : (Nat × Nat) ⊕ Nat} : (zv_mk μ sh).1[μ.1.length]? = some sh := by rw [zmk_1, List.getElem?_append_right (Nat.le_refl _), Nat.sub_self]; rfl
theorem zmk_old {μ : zv_M} {sh : (Nat × Nat) ⊕ Nat} {j : Nat} (h : j < μ.1.length) : (zv_mk μ sh).2.1 j = μ.2.1 j ∧ (zv_mk μ sh).2.2.1 j = μ.2.2.1 j ∧ (zv_mk μ sh).2.2.2 j = μ.2.2.2 j := by
  have hj : j ≠ μ.1.length := Nat.ne_of_lt h
  simp [zv_mk, va_up, hj]
theorem zmk_ws {s0 : Nat} {cA : Nat → ClassId} {μ : zv_M} {sh : (Nat × Nat) ⊕ Nat} {e : va_E} (he : zw s0 cA (zv_mk μ sh) μ.1.length = e) : zws s0 cA (zv_mk μ sh) = zws s0 cA μ ++ [(s0 + μ.1.length, e)] := by
  rw [zws_push zmk_1 (fun j h => zmk_old h), he]
theorem zmk_I {μ : zv_M} {sh : (Nat × Nat) ⊕ Nat} : (zv_mk μ sh).2.1 μ.1.length = fun _ => 0 := by simp [zv_mk, va_up]
theorem zmk_L {μ : zv_M} {sh : (Nat × Nat) ⊕ Nat} : (zv_mk μ sh).2.2.1 μ.1.length = fun _ => 0 := by simp [zv_mk, va_up]
theorem zmk_P {μ : zv_M} {sh : (Nat × Nat) ⊕ Nat} : (zv_mk μ sh).2.2.2 μ.1.length = fun _ => none := by simp [zv_mk, va_up]
theorem zs_new (C : zCx X s0 ov cA D n0 z0 res m p R s mid args meth c) {idx : Nat} (hd : decode (zv_mb m) pc = .ok (.new idx, 3)) (hw : ∀ b, d = [b] → b < 13 → ∀ C T ty, zk_c b C T ty → Cond.classLink (zv_cn (zv_mi m).2.2.1) idx C ∈ zv_gw) (h : zv_op X (.new idx) d ls st μ k = some res) (hk : ∀ ls st μ, k ls st μ = some res → zW X s0 ov cA D n0 z0 res m p l e R s mid args below meth c Q (pc + 3) ls st μ) : zW X s0 ov cA D n0 z0 res m p l e R s mid args below meth c Q pc ls st μ := by
  unfold zv_op at h
  dsimp only at h
  split at h
  rename_i b
  split at h
  · rename_i hb
    have g := hk _ _ _ h
    obtain ⟨Cn, Tn, tyn, K⟩ := zk_all b hb
    refine ⟨⟨Nat.le_trans (by rw [zmk_len]; omega) g.1.1, Nat.le_trans (by rw [zmk_sl]; omega) g.1.2⟩, fun H locs rl h1 h2 hP hS hl hL => ?_⟩
    have hc1 : μ.1.length - n0 + 1 ≤ R.cells := by
      have a1 := g.1.1
      have a2 := C.2.2.2.2.2.2.2.2.2.2.2.2.2.1
      rw [zmk_len] at a1
      omega
    have hs1 : zsl μ.1 - z0 + zsz (.inr b) ≤ R.slots := by
      have a1 := g.1.2
      have a2 := C.2.2.2.2.2.2.2.2.2.2.2.2.2.2.1
      rw [zmk_sl] at a1
      omega
    refine va_new (D := D) (ci := b) (C := Cn) (T := Tn) (N := (zv_fs b).length) (fs := (List.range (zv_fs b).length).map (fun j => zfv s0 (zv_mk μ (.inr b)) μ.1.length ((zv_fs b).getD j 9) j)) C.1 C.2.1 C.2.2.2.2.1 K.2.2.1 tyn K.2.2.2.2.1 C.2.2.2.1 (C.2.2.2.2.1 _ (hw b rfl hb _ _ _ K)) (C.2.2.2.2.1 _ K.2.2.2.2.2.2.1) (C.2.2.2.2.1 _ K.2.2.2.2.2.2.2.1) C.2.2.2.2.2.2.2.2.2.2.1 hP zws_D hS (fun q9 h9 => by rw [C.2.2.2.2.2.2.2.2.2.2.2.2.1] at h9; exact Nat.le_trans (Nat.le_add_right _ _) h9) K.1 (fun j hj => ?_) hc1 hs1 hd (fun q H1 hP1 hD1 hS1 => ?_)
    · have e1 : vp_V ((List.range (zv_fs b).length).map (fun j => zfv s0 (zv_mk μ (.inr b)) μ.1.length ((zv_fs b).getD j 9) j)) j = zfv s0 (zv_mk μ (.inr b)) μ.1.length ((zv_fs b).getD j 9) j := by
        unfold vp_V
        rw [List.getD_eq_getElem?_getD, List.getElem?_map, List.getElem?_range hj]
        rfl
      rw [e1]
      rcases K.2.2.2.2.2.1 j hj with ⟨e2, e3⟩ | ⟨e2, e3⟩ | ⟨e2, e3⟩ | ⟨e2, e3⟩
      · rw [e2, e3]; simp only [zfv, zmk_I]; rfl
      · rw [e2, e3]; simp only [zfv, zmk_L]; rfl
      · rw [e2, e3]; simp only [zfv, zmk_I]; rfl
      · rw [e2]
        rcases e3 with ⟨n9, e3⟩ | ⟨n9, e3⟩ <;> (rw [e3]; simp only [zfv, zmk_P]; rfl)
    refine W_have (P := H1.size ≤ s0 + μ.1.length + 1) (fun T hT X9 => by
      have := X9.heapSize
      rw [hT, C.2.2.2.2.2.2.2.2.2.2.2.2.1] at this
      omega) (fun hsz => ?_)
    have hq := zpin hP1 hD1 hsz
    subst hq
    refine W.cs (cells' := (zv_mk μ (.inr b)).1.length - n0) (slots' := zsl (zv_mk μ (.inr b)).1 - z0) (by rw [zmk_len]; omega) (by rw [zmk_sl]; show _ = zsl μ.1 + (zv_fs b).length - z0; omega) ?_
    refine g.2 H1 locs rl (by rw [zmk_len]; omega) (by rw [zmk_sl]; omega) ?_ hS1 hl hL
    rw [zmk_ws (zw_ob zmk_at)]
    exact hP1
  · cases h
  · cases h
def zat (t : Nat) : FieldType := match t with
  | 0 => .int
  | 1 => .long
  | 2 => .byte
  | _ => .boolean
theorem zs_newarray (C : zCx X s0 ov cA D n0 z0 res m p R s mid args meth c) {y : ArrayType} (hd : decode (zv_mb m) pc = .ok (.newarray y, 2)) (hw : ∀ t, d = [t] → t < 4 → newarray.typeOf y = zat t ∧ Cond.arrayClass (zat t) ∈ zv_gw) (h : zv_op X (.newarray y) d ls st μ k = some res) (hk : ∀ ls st μ, k ls st μ = some res → zW X s0 ov cA D n0 z0 res m p l e R s mid args below meth c Q (pc + 2) ls st μ) : zW X s0 ov cA D n0 z0 res m p l e R s mid args below meth c Q pc ls st μ := by
  unfold zv_op at h
  dsimp only at h
  split at h
  rename_i n st t
  split at h
  · cases h
  · rename_i hb
    have hn : ¬ n < 0 := fun q => hb (Or.inl q)
    have hn2 : n.toNatClampNeg ≤ 100000 := Nat.not_lt.mp fun q => hb (Or.inr (Or.inl q))
    have ht : t < 4 := Nat.not_le.mp fun q => hb (Or.inr (Or.inr q))
    obtain ⟨w1, w2⟩ := hw t rfl ht
    have g := hk _ _ _ h
    refine ⟨⟨Nat.le_trans (by rw [zmk_len]; omega) g.1.1, Nat.le_trans (by rw [zmk_sl]; omega) g.1.2⟩, fun H locs rl h1 h2 hP hS hl hL => ?_⟩
    have hc1 : μ.1.length - n0 + 1 ≤ R.cells := by
      have a1 := g.1.1
      have a2 := C.2.2.2.2.2.2.2.2.2.2.2.2.2.1
      rw [zmk_len] at a1
      omega
    have hs1 : zsl μ.1 - z0 + zsz (.inl (t, n.toNatClampNeg)) ≤ R.slots := by
      have a1 := g.1.2
      have a2 := C.2.2.2.2.2.2.2.2.2.2.2.2.2.2.1
      rw [zmk_sl] at a1
      omega
    have ht4 : t = 0 ∨ t = 1 ∨ t = 2 ∨ t = 3 := by omega
    have hcb : n.toNatClampNeg * componentBytes (zat t) ≤ 536870912 := by
      have : componentBytes (zat t) ≤ 8 := by rcases ht4 with rfl | rfl | rfl | rfl <;> decide
      calc n.toNatClampNeg * componentBytes (zat t) ≤ 100000 * 8 := Nat.mul_le_mul hn2 this
        _ ≤ 536870912 := by decide
    refine va_newa (a0 := (n.toNatClampNeg, zdt s0 (zv_mk μ (.inl (t, n.toNatClampNeg))) μ.1.length t)) C.1 C.2.1 (by rw [w1]; exact C.2.2.2.2.1 _ w2) w1 C.2.2.2.2.2.2.2.2.2.2.1 hP zws_D hS (fun q9 h9 => by rw [C.2.2.2.2.2.2.2.2.2.2.2.2.1] at h9; exact Nat.le_trans (Nat.le_add_right _ _) h9) (fun cA9 => ?_) hn rfl hcb hc1 hs1 hd (fun q cA9 H1 hK1 hP1 hD1 hS1 => ?_)
    · rcases ht4 with rfl | rfl | rfl | rfl
      · simp only [zdt, zmk_I]; rfl
      · simp only [zdt, zmk_L]; rfl
      · simp only [zdt, zmk_I]; rfl
      · simp only [zdt, zmk_I]; rfl
    have ecA : cA9 = cA t := by
      have a1 : va_RA s cA9 (zat t) := (hK1.2 7 _ rfl).2
      rcases ht4 with rfl | rfl | rfl | rfl
      · exact Option.some.inj (a1.symm.trans (C.2.2.2.2.2.2.2.2.2.2.1.2 0 _ rfl).2)
      · exact Option.some.inj (a1.symm.trans (C.2.2.2.2.2.2.2.2.2.2.1.2 1 _ rfl).2)
      · exact Option.some.inj (a1.symm.trans (C.2.2.2.2.2.2.2.2.2.2.1.2 2 _ rfl).2)
      · exact Option.some.inj (a1.symm.trans (C.2.2.2.2.2.2.2.2.2.2.1.2 3 _ rfl).2)
    subst ecA
    refine W_have (P := H1.size ≤ s0 + μ.1.length + 1) (fun T hT X9 => by
      have := X9.heapSize
      rw [hT, C.2.2.2.2.2.2.2.2.2.2.2.2.1] at this
      omega) (fun hsz => ?_)
    have hq := zpin hP1 hD1 hsz
    subst hq
    refine W.cs (cells' := (zv_mk μ (.inl (t, n.toNatClampNeg))).1.length - n0) (slots' := zsl (zv_mk μ (.inl (t, n.toNatClampNeg))).1 - z0) (by rw [zmk_len]; omega) (by rw [zmk_sl]; show _ = zsl μ.1 + n.toNatClampNeg - z0; omega) ?_
    refine g.2 H1 locs rl (by rw [zmk_len]; omega) (by rw [zmk_sl]; omega) ?_ hS1 hl hL
    rw [zmk_ws (zw_ar zmk_at)]
    exact hP1
  · cases h
theorem zs_anewarray (C : zCx X s0 ov cA D n0 z0 res m p R s mid args meth c) {idx : Nat} (hd : decode (zv_mb m) pc = .ok (.anewarray idx, 3)) (hw : Cond.classLink (zv_cn (zv_mi m).2.2.1) idx "GuessedPlace$Level" ∈ zv_gw) (h : zv_op X (.anewarray idx) d ls st μ k = some res) (hk : ∀ ls st μ, k ls st μ = some res → zW X s0 ov cA D n0 z0 res m p l e R s mid args below meth c Q (pc + 3) ls st μ) : zW X s0 ov cA D n0 z0 res m p l e R s mid args below meth c Q pc ls st μ := by
  unfold zv_op at h
  dsimp only at h
  split at h
  rename_i n st
  split at h
  · cases h
  · rename_i hb
    have hn : ¬ n < 0 := fun q => hb (Or.inl q)
    have hn2 : n.toNatClampNeg ≤ 100000 := Nat.not_lt.mp fun q => hb (Or.inr q)
    have g := hk _ _ _ h
    refine ⟨⟨Nat.le_trans (by rw [zmk_len]; omega) g.1.1, Nat.le_trans (by rw [zmk_sl]; omega) g.1.2⟩, fun H locs rl h1 h2 hP hS hl hL => ?_⟩
    have hc1 : μ.1.length - n0 + 1 ≤ R.cells := by
      have a1 := g.1.1
      have a2 := C.2.2.2.2.2.2.2.2.2.2.2.2.2.1
      rw [zmk_len] at a1
      omega
    have hs1 : zsl μ.1 - z0 + zsz (.inl (4, n.toNatClampNeg)) ≤ R.slots := by
      have a1 := g.1.2
      have a2 := C.2.2.2.2.2.2.2.2.2.2.2.2.2.2.1
      rw [zmk_sl] at a1
      omega
    refine va_newq C.1 C.2.1 C.2.2.2.1 (C.2.2.2.2.1 _ hw) C.2.2.2.2.2.2.2.2.2.2.2.1.2.2.2.2.2.1 C.2.2.2.2.2.2.2.2.2.2.1 hP zws_D hS (fun q9 h9 => by rw [C.2.2.2.2.2.2.2.2.2.2.2.2.1] at h9; exact Nat.le_trans (Nat.le_add_right _ _) h9) hn rfl (by omega) hc1 hs1 hd (fun q cA9 H1 hK1 hP1 hD1 hS1 => ?_)
    have ecA : cA9 = cA 4 := by
      obtain ⟨-, -, -, -, -, a1⟩ := (hK1.2 7 _ rfl).2
      obtain ⟨-, -, -, -, -, a2⟩ := (C.2.2.2.2.2.2.2.2.2.2.1.2 4 _ rfl).2
      exact Option.some.inj (a1.symm.trans a2)
    subst ecA
    refine W_have (P := H1.size ≤ s0 + μ.1.length + 1) (fun T hT X9 => by
      have := X9.heapSize
      rw [hT, C.2.2.2.2.2.2.2.2.2.2.2.2.1] at this
      omega) (fun hsz => ?_)
    have hq := zpin hP1 hD1 hsz
    subst hq
    refine W.cs (cells' := (zv_mk μ (.inl (4, n.toNatClampNeg))).1.length - n0) (slots' := zsl (zv_mk μ (.inl (4, n.toNatClampNeg))).1 - z0) (by rw [zmk_len]; omega) (by rw [zmk_sl]; show _ = zsl μ.1 + n.toNatClampNeg - z0; omega) ?_
    refine g.2 H1 locs rl (by rw [zmk_len]; omega) (by rw [zmk_sl]; omega) ?_ hS1 hl hL
    rw [zmk_ws (e := .inl (cA 4, n.toNatClampNeg, .inr (.inr (.inr (.inr (fun _ => none)))))) (by rw [zw_ar zmk_at]; simp only [zdt, zmk_P]; rfl)]
    exact hP1
  · cases h
theorem zs_checkcast (C : zCx X s0 ov cA D n0 z0 res m p R s mid args meth c) {idx : Nat} (hd : decode (zv_mb m) pc = .ok (.checkcast idx, 3)) (hw : Cond.classLink (zv_cn (zv_mi m).2.2.1) idx "[I" ∈ zv_gw) (h : zv_op X (.checkcast idx) d ls st μ k = some res) (hk : ∀ ls st μ, k ls st μ = some res → zW X s0 ov cA D n0 z0 res m p l e R s mid args below meth c Q (pc + 3) ls st μ) : zW X s0 ov cA D n0 z0 res m p l e R s mid args below meth c Q pc ls st μ := by
  unfold zv_op at h
  dsimp only at h
  split at h
  · rename_i a st
    split at h
    · rename_i n hsh
      have g := hk _ _ _ h
      exact ⟨g.1, fun H locs rl h1 h2 hP hS hl hL => va_castA C.1 C.2.1 C.2.2.2.1 (C.2.2.2.2.1 _ hw) hP a (zws_ar hsh) (va_nm_int (C.2.2.2.2.2.2.2.2.2.2.1.2 0 _ rfl).2) hd (g.2 H locs rl h1 h2 hP hS hl hL)⟩
    · cases h
  · cases h
theorem zs_arraycopy (C : zCx X s0 ov cA D n0 z0 res m p R s mid args meth c) {idx : Nat} (hd : decode (zv_mb m) pc = .ok (.invokestatic idx, 3)) (hw : Cond.methodLink (zv_cn (zv_mi m).2.2.1) idx arraycopyName ∈ zv_gw ∧ Cond.native arraycopyName ∈ zv_gw ∧ Cond.static arraycopyName ∈ zv_gw ∧ Cond.initialized "java/lang/System" ∈ zv_gw ∧ 1 ≤ (zv_mi m).2.2.2.1 ∧ 26 ≤ (zv_mi m).2.2.2.2.1) (h : zv_op X (.invokestatic idx) d ls st μ k = some res) (hk : ∀ ls st μ, k ls st μ = some res → zW X s0 ov cA D n0 z0 res m p l e R s mid args below meth c Q (pc + 3) ls st μ) : zW X s0 ov cA D n0 z0 res m p l e R s mid args below meth c Q pc ls st μ := by
  unfold zv_op at h
  dsimp only at h
  split at h
  · rename_i n dp b sp a st
    split at h
    · rename_i na nb ha hb
      split at h
      · cases h
      · rename_i hq
        have g := hk _ _ _ h
        have q1 : ¬ sp < 0 := fun q => hq (Or.inl q)
        have q2 : ¬ dp < 0 := fun q => hq (Or.inr (Or.inl q))
        have q3 : ¬ n < 0 := fun q => hq (Or.inr (Or.inr (Or.inl q)))
        have q4 : sp.toNatClampNeg + n.toNatClampNeg ≤ na := Nat.not_lt.mp fun q => hq (Or.inr (Or.inr (Or.inr (Or.inl q))))
        have q5 : dp.toNatClampNeg + n.toNatClampNeg ≤ nb := Nat.not_lt.mp fun q => hq (Or.inr (Or.inr (Or.inr (Or.inr (Or.inl q)))))
        have q6 : (st.map fun v => v.category).sum ≤ 8 := Nat.not_lt.mp fun q => hq (Or.inr (Or.inr (Or.inr (Or.inr (Or.inr q)))))
        refine ⟨g.1, fun H locs rl h1 h2 hP hS hl hL => ?_⟩
        have e7 : nativeFrameWords "java/lang/System" "arraycopy" 5 = 7 := by decide +kernel
        refine va_copyi C.1 C.2.1 (by rw [C.2.2.1, hl.1]) C.2.2.2.1 (C.2.2.2.2.1 _ hw.1) (C.2.2.2.2.1 _ hw.2.1) (C.2.2.2.2.1 _ hw.2.2.1) (C.2.2.2.2.1 _ hw.2.2.2.1) C.2.2.2.2.2.2.2.2.2.2.1 hP zws_D hS a b 0 0 (zws_ar ha) (zws_ar hb) rfl rfl rfl q1 q2 q3 q4 q5 (fun _ _ => rfl) (Nat.le_trans hw.2.2.2.2.1 C.2.2.2.2.2.2.2.2.1) ?_ hd (fun H1 locs1 hP1 _ hS1 => g.2 H1 locs1 rl h1 h2 ?_ hS1 hl hL)
        · rw [e7, zc_cats C.2.2.2.2.2.2.2.2.2.2.2.2.2.2.2.1]
          have := C.2.2.2.2.2.2.2.2.2.1
          have := hw.2.2.2.2.2
          omega
        · rw [← zws_set (e := .inl (cA 0, nb, .inl (va_cpy (μ.2.1 a) (μ.2.1 b) sp.toNatClampNeg dp.toNatClampNeg n.toNatClampNeg))) zoff_I (by rw [zw_ar (by exact hb)]; simp [zdt, zv_wA, va_up])]
          exact hP1
    · cases h
  · cases h
theorem zs_objinit (C : zCx X s0 ov cA D n0 z0 res m p R s mid args meth c) {idx : Nat} (hd : decode (zv_mb m) pc = .ok (.invokespecial idx, 3)) (hw : Cond.methodLink (zv_cn (zv_mi m).2.2.1) idx Lib.objectInit ∈ zv_gw ∧ Cond.instanceMethod Lib.objectInit ∈ zv_gw ∧ Cond.code Lib.objectInit ⟨#[0xb1]⟩ 1 none ∈ zv_gw ∧ 1 ≤ (zv_mi m).2.2.2.1 ∧ 20 ≤ (zv_mi m).2.2.2.2.1) (h : zv_op X (.invokespecial idx) d ls st μ k = some res) (hk : ∀ ls st μ, k ls st μ = some res → zW X s0 ov cA D n0 z0 res m p l e R s mid args below meth c Q (pc + 3) ls st μ) : zW X s0 ov cA D n0 z0 res m p l e R s mid args below meth c Q pc ls st μ := by
  unfold zv_op at h
  dsimp only at h
  split at h
  · rename_i a st
    split at h
    · cases h
    · rename_i hq
      have g := hk _ _ _ h
      refine ⟨g.1, fun H locs rl h1 h2 hP hS hl hL => ?_⟩
      refine W.objInit C.1 C.2.1 C.2.2.2.1 (C.2.2.2.2.1 _ hw.1) (C.2.2.2.2.1 _ hw.2.1) (C.2.2.2.2.1 _ hw.2.2.1) rfl (by rw [C.2.2.1]; exact hl.1) rfl hd (Nat.le_trans hw.2.2.2.1 C.2.2.2.2.2.2.2.2.1) ?_ (g.2 H locs rl h1 h2 hP hS hl hL)
      show 2 * 0 + _ + 12 ≤ R.locals
      rw [zc_cats C.2.2.2.2.2.2.2.2.2.2.2.2.2.2.2.1]
      have := C.2.2.2.2.2.2.2.2.2.1
      have := hw.2.2.2.2
      omega
  · cases h
end ZS3
end
section
section ZPAR
variable {α : Type}
/-- an instruction's end doesn't hang on what goes on behind it -/
theorem zop_bind (X : zv_X) (i : Instr) (d : List Nat) (ls : zv_L) (st : List Value) (μ : zv_M) (k : zv_L → List Value → zv_M → Option α) : zv_op X i d ls st μ k = (zv_op X i d ls st μ (fun a b c => some (a, b, c))).bind (fun t => k t.1 t.2.1 t.2.2) := by
  unfold zv_op
  split
  all_goals (try rfl)
  all_goals (try unfold zv_ldc)
  all_goals (try unfold zv_ldi)
  all_goals (try unfold zv_ldl)
  all_goals (try unfold zv_lda)
  all_goals (try unfold zv_p1i)
  all_goals (try unfold zv_p2i)
  all_goals (try unfold zv_p1l)
  all_goals (try unfold zv_p2l)
  all_goals (try unfold zv_p1a)
  all_goals (try unfold zv_sto)
  all_goals (try unfold zv_sto2)
  all_goals (try unfold zv_get)
  all_goals (try unfold zv_put)
  all_goals (try unfold zv_ix)
  all_goals (try unfold zv_iq)
  all_goals (try unfold zv_ox)
  all_goals (try unfold zv_ob)
  all_goals (repeat' (first | rfl | split | dsimp only))
theorem zmks_ge (sh : (Nat × Nat) ⊕ Nat) : ∀ (n : Nat) (μ : zv_M), μ.1.length ≤ (zv_mks sh n μ).1.length ∧ zsl μ.1 ≤ zsl (zv_mks sh n μ).1
  | 0, μ => ⟨Nat.le_refl _, Nat.le_refl _⟩
  | n + 1, μ => by
    have h := zmks_ge sh n (zv_mk μ sh)
    rw [zmk_len, zmk_sl] at h
    show μ.1.length ≤ (zv_mks sh n (zv_mk μ sh)).1.length ∧ zsl μ.1 ≤ zsl (zv_mks sh n (zv_mk μ sh)).1
    omega
theorem zop_ge {X : zv_X} {i : Instr} {d : List Nat} {ls : zv_L} {st : List Value} {μ : zv_M} {t : zv_L × List Value × zv_M} (h : zv_op X i d ls st μ (fun a b c => some (a, b, c)) = some t) : μ.1.length ≤ t.2.2.1.length ∧ zsl μ.1 ≤ zsl t.2.2.1 := by
  unfold zv_op at h
  split at h
  all_goals (try unfold zv_ldc at h)
  all_goals (try unfold zv_ldi at h)
  all_goals (try unfold zv_ldl at h)
  all_goals (try unfold zv_lda at h)
  all_goals (try unfold zv_p1i at h)
  all_goals (try unfold zv_p2i at h)
  all_goals (try unfold zv_p1l at h)
  all_goals (try unfold zv_p2l at h)
  all_goals (try unfold zv_p1a at h)
  all_goals (try unfold zv_sto at h)
  all_goals (try unfold zv_sto2 at h)
  all_goals (try unfold zv_get at h)
  all_goals (try unfold zv_put at h)
  all_goals (try unfold zv_ix at h)
  all_goals (try unfold zv_iq at h)
  all_goals (try unfold zv_ox at h)
  all_goals (try unfold zv_ob at h)
  all_goals (repeat' (first | (cases h; done) | (cases h; exact ⟨Nat.le_refl _, Nat.le_refl _⟩) | (cases h; exact ⟨by show _ ≤ (zv_mk _ _).1.length; rw [zmk_len]; omega, by show _ ≤ zsl (zv_mk _ _).1; rw [zmk_sl]; omega⟩) | (cases h; exact ⟨Nat.le_trans (by show _ ≤ (zv_mk _ _).1.length; rw [zmk_len]; omega) (zmks_ge _ _ _).1, Nat.le_trans (by show _ ≤ zsl (zv_mk _ _).1; rw [zmk_sl]; omega) (zmks_ge _ _ _).2⟩) | split at h | dsimp only at h))
theorem zop_par {X : zv_X} {i : Instr} {d : List Nat} {ls : zv_L} {st : List Value} {μ : zv_M} {k : zv_L → List Value → zv_M → Option α} {y : α} (h : zv_op X i d ls st μ k = some y) : ∃ t : zv_L × List Value × zv_M, k t.1 t.2.1 t.2.2 = some y ∧ (∀ k' : zv_L → List Value → zv_M → Option α, zv_op X i d ls st μ k' = k' t.1 t.2.1 t.2.2) ∧ μ.1.length ≤ t.2.2.1.length ∧ zsl μ.1 ≤ zsl t.2.2.1 := by
  rw [zop_bind] at h
  cases hd : zv_op X i d ls st μ (fun a b c => some (a, b, c)) with
  | none => rw [hd] at h; cases h
  | some t =>
    rw [hd] at h
    exact ⟨t, h, fun k' => by rw [zop_bind, hd]; rfl, zop_ge hd⟩
end ZPAR
end
section
section ZFIX
theorem zif_spec {α : Type} {b : ClassFile.Cond} {x y : Int32} {A B : Option α} {r : α} (h : zv_if b x y A B = some r) : (A = some r ∧ ∀ A' B' : Option α, zv_if b x y A' B' = A') ∨ (B = some r ∧ ∀ A' B' : Option α, zv_if b x y A' B' = B') := by
  unfold zv_if at h
  cases b <;> (dsimp only at h; split at h <;> rename_i hc <;> first | exact Or.inl ⟨h, fun A' B' => by simp [zv_if, hc]⟩ | exact Or.inr ⟨h, fun A' B' => by simp [zv_if, hc]⟩)
theorem zbk_spec {α : Type} {rk : Nat} {o : Option zv_R} {st : List Value} {k : List Value → zv_M → Option α} {r : α} (h : zv_bk rk o st k = some r) : ∃ r1 st', o = some r1 ∧ k st' r1.2 = some r ∧ st' = r1.1.toList ++ st ∧ ∀ k' : List Value → zv_M → Option α, zv_bk rk (some r1) st k' = k' st' r1.2 := by
  unfold zv_bk at h
  split at h
  · unfold zv_cv at h
    split at h
    · exact ⟨_, _, rfl, h, rfl, fun k' => rfl⟩
    · cases h
  · unfold zv_ci at h
    split at h
    · exact ⟨_, _, rfl, h, rfl, fun k' => rfl⟩
    · cases h
  · unfold zv_cl at h
    split at h
    · exact ⟨_, _, rfl, h, rfl, fun k' => rfl⟩
    · cases h
  · unfold zv_cr at h
    split at h
    · exact ⟨_, _, rfl, h, rfl, fun k' => rfl⟩
    · cases h
  · cases h
theorem zrcv_spec {α : Type} {b : Nat} {v : Value} {μ : zv_M} {r : Option α} {y : α} (h : zv_rcv b v μ r = some y) : r = some y ∧ ∀ r' : Option α, zv_rcv b v μ r' = r' := by
  unfold zv_rcv at h
  split at h
  · obtain ⟨h1, h2⟩ := zob_spec h
    exact ⟨h2, fun r' => by simp [zv_rcv, zv_ob, h1]⟩
  · split at h
    · rename_i hc
      exact ⟨h, fun r' => by simp [zv_rcv, hc]⟩
    · cases h
  · cases h
abbrev zK3 : Type := zv_L → List Value → zv_M → Option zv_R
/-- one instruction: a jump, an answer, a step, or a call -/
def zone_S (X : zv_X) (m : Nat) (K : zv_C → Option zv_R) (q : zv_I) (ls : zv_L) (st : List Value) (μ : zv_M) (k : zK3) (r : zv_R) : Prop :=
  (∃ c', K c' = some r ∧ ∀ (K' : zv_C → Option zv_R) (k' : zK3), K' c' = some r → zv_one X m K' q ls st μ k' = some r) ∨
  (∀ (K' : zv_C → Option zv_R) (k' : zK3), zv_one X m K' q ls st μ k' = some r) ∨
  (∃ t : zv_L × List Value × zv_M, k t.1 t.2.1 t.2.2 = some r ∧ ∀ (K' : zv_C → Option zv_R) (k' : zK3), k' t.1 t.2.1 t.2.2 = some r → zv_one X m K' q ls st μ k' = some r) ∨
  (∃ (c' : zv_C) (r1 : zv_R) (st' : List Value), K c' = some r1 ∧ k ls st' r1.2 = some r ∧ ∀ (K' : zv_C → Option zv_R) (k' : zK3), K' c' = some r1 → k' ls st' r1.2 = some r → zv_one X m K' q ls st μ k' = some r)
theorem zone_op {X : zv_X} {m : Nat} {K : zv_C → Option zv_R} {q : zv_I} {ls : zv_L} {st : List Value} {μ : zv_M} {k : zK3} {r : zv_R} (h : zv_op X q.2.1 q.2.2 ls st μ k = some r) (he : ∀ (K' : zv_C → Option zv_R) (k' : zK3), zv_one X m K' q ls st μ k' = zv_op X q.2.1 q.2.2 ls st μ k') : zone_S X m K q ls st μ k r := by
  obtain ⟨t, h1, h2, -⟩ := zop_par h
  exact Or.inr (Or.inr (Or.inl ⟨t, h1, fun K' k' h9 => by rw [he, h2]; exact h9⟩))
theorem zone_cS {X : zv_X} {m : Nat} {K : zv_C → Option zv_R} {q : zv_I} {ls : zv_L} {st : List Value} {μ : zv_M} {k : zK3} {r : zv_R} {b n rk : Nat} (h : zv_cS m K b n rk st μ (fun st μ => k ls st μ) = some r) (he : ∀ (K' : zv_C → Option zv_R) (k' : zK3), zv_one X m K' q ls st μ k' = zv_cS m K' b n rk st μ (fun st μ => k' ls st μ)) : zone_S X m K q ls st μ k r := by
  unfold zv_cS at h
  split at h
  · rename_i hc
    obtain ⟨r1, st', h1, h2, -, h3⟩ := zbk_spec h
    refine Or.inr (Or.inr (Or.inr ⟨_, r1, st', h1, h2, fun K' k' g1 g2 => ?_⟩))
    rw [he]
    unfold zv_cS
    rw [if_pos hc, g1, h3]
    exact g2
  · cases h
theorem zone_cV {X : zv_X} {m kd : Nat} {K : zv_C → Option zv_R} {q : zv_I} {ls : zv_L} {st : List Value} {μ : zv_M} {k : zK3} {r : zv_R} {b n rk : Nat} (h : zv_cV m kd K b n rk st μ (fun st μ => k ls st μ) = some r) (he : ∀ (K' : zv_C → Option zv_R) (k' : zK3), zv_one X m K' q ls st μ k' = zv_cV m kd K' b n rk st μ (fun st μ => k' ls st μ)) : zone_S X m K q ls st μ k r := by
  unfold zv_cV at h
  split at h
  · rename_i v rest hv
    split at h
    · rename_i hc
      obtain ⟨h, h4⟩ := zrcv_spec h
      obtain ⟨r1, st', h1, h2, -, h3⟩ := zbk_spec h
      refine Or.inr (Or.inr (Or.inr ⟨_, r1, st', h1, h2, fun K' k' g1 g2 => ?_⟩))
      rw [he]
      unfold zv_cV
      rw [hv]
      dsimp only
      rw [if_pos hc, h4, g1, h3]
      exact g2
    · cases h
  · cases h
theorem zone_spec {X : zv_X} {m : Nat} {K : zv_C → Option zv_R} {q : zv_I} {ls : zv_L} {st : List Value} {μ : zv_M} {k : zK3} {r : zv_R} (h : zv_one X m K q ls st μ k = some r) : zone_S X m K q ls st μ k r := by
  obtain ⟨pc, i, d⟩ := q
  unfold zv_one at h
  dsimp only at h
  split at h
  · split at h
    · exact Or.inl ⟨_, h, fun K' k' g => g⟩
    · cases h
  · split at h
    · exact Or.inl ⟨_, h, fun K' k' g => g⟩
    · cases h
  · split at h
    · rcases zif_spec h with ⟨h1, h2⟩ | ⟨h1, h2⟩
      · exact Or.inl ⟨_, h1, fun K' k' g => (h2 _ _).trans g⟩
      · exact Or.inr (Or.inr (Or.inl ⟨(_, _, _), h1, fun K' k' g => (h2 _ _).trans g⟩))
    · cases h
  · split at h
    · rcases zif_spec h with ⟨h1, h2⟩ | ⟨h1, h2⟩
      · exact Or.inl ⟨_, h1, fun K' k' g => (h2 _ _).trans g⟩
      · exact Or.inr (Or.inr (Or.inl ⟨(_, _, _), h1, fun K' k' g => (h2 _ _).trans g⟩))
    · cases h
  · split at h
    · exact Or.inr (Or.inr (Or.inl ⟨(_, _, _), h, fun K' k' g => g⟩))
    · cases h
  · rename_i df lo hi offs
    split at h
    · rename_i n0 l0 tg x st
      split at h
      · rename_i hc
        refine Or.inl ⟨_, h, fun K' k' g => ?_⟩
        unfold zv_one
        dsimp only
        rw [if_pos hc]
        exact g
      · rename_i hc
        split at h
        · rename_i l1 hl1
          refine Or.inl ⟨_, h, fun K' k' g => ?_⟩
          unfold zv_one
          dsimp only
          rw [if_neg hc, hl1]
          exact g
        · cases h
    · cases h
  · split at h
    · exact Or.inr (Or.inl (fun K' k' => h))
    · cases h
  · split at h
    · exact Or.inr (Or.inl (fun K' k' => h))
    · cases h
  · split at h
    · exact Or.inr (Or.inl (fun K' k' => h))
    · cases h
  · split at h
    · exact Or.inr (Or.inl (fun K' k' => h))
    · cases h
  · split at h
    · exact zone_cS h (fun K' k' => rfl)
    · rename_i hd
      refine zone_op h (fun K' k' => ?_)
      unfold zv_one
      dsimp only
      split
      · exact (hd _ _ _ rfl).elim
      · rfl
  · split at h
    · exact zone_cV h (fun K' k' => rfl)
    · rename_i hd
      refine zone_op h (fun K' k' => ?_)
      unfold zv_one
      dsimp only
      split
      · exact (hd _ _ _ rfl).elim
      · rfl
  · split at h
    · exact zone_cV h (fun K' k' => rfl)
    · rename_i hd
      refine zone_op h (fun K' k' => ?_)
      unfold zv_one
      dsimp only
      split
      · exact (hd _ _ _ rfl).elim
      · rfl
  · refine zone_op h (fun K' k' => ?_)
    unfold zv_one
    dsimp only
    split <;> first | rfl | (exfalso; simp_all; done) | (exfalso; simp_all; rename_i hx; exact hx _ _ _ _ rfl rfl rfl rfl)
theorem zexe_mono {X : zv_X} {m : Nat} {K K' : zv_C → Option zv_R} (hK : ∀ c r, K c = some r → K' c = some r) : ∀ (is : List zv_I) (ls : zv_L) (st : List Value) (μ : zv_M) (r : zv_R), zv_exe X m K is ls st μ = some r → zv_exe X m K' is ls st μ = some r
  | [], _, _, _, _, h => by cases h
  | q :: is, ls, st, μ, r, h => by
    have h : zv_one X m K q ls st μ (fun ls st μ => zv_exe X m K is ls st μ) = some r := h
    show zv_one X m K' q ls st μ (fun ls st μ => zv_exe X m K' is ls st μ) = some r
    rcases zone_spec h with ⟨c', h1, h2⟩ | h2 | ⟨t, h1, h2⟩ | ⟨c', r1, st', h1, h3, h2⟩
    · exact h2 _ _ (hK _ _ h1)
    · exact h2 _ _
    · exact h2 _ _ (zexe_mono hK is _ _ _ _ h1)
    · exact h2 _ _ (hK _ _ h1) (zexe_mono hK is _ _ _ _ h3)
theorem zstep_mono {X : zv_X} {K K' : zv_C → Option zv_R} (hK : ∀ c r, K c = some r → K' c = some r) {c : zv_C} {r : zv_R} (h : zv_step X K c = some r) : zv_step X K' c = some r := by
  unfold zv_step at h ⊢
  split at h
  · exact zexe_mono hK _ _ _ _ _ h
  · cases h
theorem zrun_succ {X : zv_X} : ∀ (n : Nat) (c : zv_C) (r : zv_R), zv_run X n c = some r → zv_run X (n + 1) c = some r
  | 0, _, _, h => by cases h
  | n + 1, c, r, h => zstep_mono (zrun_succ n) h
theorem zrun_le {X : zv_X} {n n' : Nat} (hn : n ≤ n') {c : zv_C} {r : zv_R} (h : zv_run X n c = some r) : zv_run X n' c = some r := by
  induction hn with
  | refl => exact h
  | step _ ih => exact zrun_succ _ _ _ ih
theorem zR_of {X : zv_X} {n : Nat} {c : zv_C} {r : zv_R} (h : zv_run X n c = some r) : zR X c = some r := by
  have hx : ∃ n, (zv_run X n c).isSome = true := ⟨n, by rw [h]; rfl⟩
  unfold zR
  rw [dif_pos hx]
  obtain ⟨r', hr'⟩ := Option.isSome_iff_exists.mp (Classical.choose_spec hx)
  rw [hr']
  rcases Nat.le_total n (Classical.choose hx) with h9 | h9
  · rw [← hr']
    exact zrun_le h9 h
  · rw [← h]
    exact (zrun_le h9 hr').symm
theorem zR_to {X : zv_X} {c : zv_C} {r : zv_R} (h : zR X c = some r) : ∃ n, zv_run X n c = some r := by
  unfold zR at h
  by_cases hx : ∃ n, (zv_run X n c).isSome = true
  · rw [dif_pos hx] at h
    exact ⟨_, h⟩
  · rw [dif_neg hx] at h
    cases h
theorem zexe_cont {X : zv_X} {m : Nat} : ∀ (is : List zv_I) (ls : zv_L) (st : List Value) (μ : zv_M) (r : zv_R), zv_exe X m (zR X) is ls st μ = some r → ∃ n, zv_exe X m (zv_run X n) is ls st μ = some r
  | [], _, _, _, _, h => by cases h
  | q :: is, ls, st, μ, r, h => by
    have h : zv_one X m (zR X) q ls st μ (fun ls st μ => zv_exe X m (zR X) is ls st μ) = some r := h
    rcases zone_spec h with ⟨c', h1, h2⟩ | h2 | ⟨t, h1, h2⟩ | ⟨c', r1, st', h1, h3, h2⟩
    · obtain ⟨n, hn⟩ := zR_to h1
      exact ⟨n, h2 _ _ hn⟩
    · exact ⟨0, h2 _ _⟩
    · obtain ⟨n, hn⟩ := zexe_cont is _ _ _ _ h1
      exact ⟨n, h2 _ _ hn⟩
    · obtain ⟨n, hn⟩ := zR_to h1
      obtain ⟨n2, hn2⟩ := zexe_cont is _ _ _ _ h3
      exact ⟨max n n2, h2 _ _ (zrun_le (Nat.le_max_left _ _) hn) (zexe_mono (fun c r h9 => zrun_le (Nat.le_max_right _ _) h9) _ _ _ _ _ hn2)⟩
/-- the run unrolled once -/
theorem zR_step (X : zv_X) (c : zv_C) : zR X c = zv_step X (zR X) c := by
  apply Option.ext
  intro r
  constructor
  · intro h
    obtain ⟨n, hn⟩ := zR_to h
    cases n with
    | zero => cases hn
    | succ n => exact zstep_mono (fun c r h9 => zR_of h9) hn
  · intro h
    unfold zv_step at h
    split at h
    · rename_i b hb
      obtain ⟨n, hn⟩ := zexe_cont _ _ _ _ _ h
      refine zR_of (n := n + 1) ?_
      show zv_step X (zv_run X n) c = some r
      unfold zv_step
      rw [hb]
      exact hn
    · cases h
theorem zone_ge {X : zv_X} {m : Nat} {K : zv_C → Option zv_R} {q : zv_I} {ls : zv_L} {st : List Value} {μ : zv_M} {k : zK3} {r : zv_R} (hK : ∀ c r, K c = some r → c.2.2.2.2.1.length ≤ r.2.1.length ∧ zsl c.2.2.2.2.1 ≤ zsl r.2.1) (hk : ∀ ls st μ, k ls st μ = some r → μ.1.length ≤ r.2.1.length ∧ zsl μ.1 ≤ zsl r.2.1) (h : zv_one X m K q ls st μ k = some r) : μ.1.length ≤ r.2.1.length ∧ zsl μ.1 ≤ zsl r.2.1 := by
  have hJ : ∀ (l : Nat) (ls : zv_L) (st : List Value), K (zv_jmp m l ls st μ) = some r → μ.1.length ≤ r.2.1.length ∧ zsl μ.1 ≤ zsl r.2.1 := by
    intro l ls st h9
    have h1 := hK _ _ h9
    unfold zv_jmp at h1
    split at h1 <;> exact h1
  have hO : ∀ {i : Instr} {d : List Nat}, zv_op X i d ls st μ k = some r → μ.1.length ≤ r.2.1.length ∧ zsl μ.1 ≤ zsl r.2.1 := by
    intro i d h9
    obtain ⟨t, h1, -, h2, h3⟩ := zop_par h9
    have h4 := hk _ _ _ h1
    omega
  have hB : ∀ {rk : Nat} {c' : zv_C} {st' : List Value}, c'.2.2.2.2 = μ → zv_bk rk (K c') st' (fun st μ => k ls st μ) = some r → μ.1.length ≤ r.2.1.length ∧ zsl μ.1 ≤ zsl r.2.1 := by
    intro rk c' st' hc h9
    obtain ⟨r1, st2, h1, h2, -, -⟩ := zbk_spec h9
    have h3 := hK _ _ h1
    have h4 := hk _ _ _ h2
    rw [hc] at h3
    omega
  have hV : ∀ {kd b n rk : Nat}, zv_cV m kd K b n rk st μ (fun st μ => k ls st μ) = some r → μ.1.length ≤ r.2.1.length ∧ zsl μ.1 ≤ zsl r.2.1 := by
    intro kd b n rk h9
    unfold zv_cV at h9
    split at h9
    · split at h9
      · exact hB rfl (zrcv_spec h9).1
      · cases h9
    · cases h9
  obtain ⟨pc, i, d⟩ := q
  unfold zv_one at h
  dsimp only at h
  split at h
  · split at h
    · exact hJ _ _ _ h
    · cases h
  · split at h
    · exact hJ _ _ _ h
    · cases h
  · split at h
    · rcases zif_spec h with ⟨h1, -⟩ | ⟨h1, -⟩
      · exact hJ _ _ _ h1
      · exact hk _ _ _ h1
    · cases h
  · split at h
    · rcases zif_spec h with ⟨h1, -⟩ | ⟨h1, -⟩
      · exact hJ _ _ _ h1
      · exact hk _ _ _ h1
    · cases h
  · split at h
    · exact hk _ _ _ h
    · cases h
  · split at h
    · split at h
      · exact hJ _ _ _ h
      · split at h
        · exact hJ _ _ _ h
        · cases h
    · cases h
  · split at h
    · unfold zv_rt at h
      split at h
      · cases h; exact ⟨Nat.le_refl _, Nat.le_refl _⟩
      · split at h <;> cases h; exact ⟨Nat.le_refl _, Nat.le_refl _⟩
      · split at h <;> cases h; exact ⟨Nat.le_refl _, Nat.le_refl _⟩
      · split at h <;> cases h; exact ⟨Nat.le_refl _, Nat.le_refl _⟩
      · cases h
    · cases h
  · split at h
    · split at h <;> cases h; exact ⟨Nat.le_refl _, Nat.le_refl _⟩
    · cases h
  · split at h
    · split at h <;> cases h; exact ⟨Nat.le_refl _, Nat.le_refl _⟩
    · cases h
  · split at h
    · split at h <;> cases h; exact ⟨Nat.le_refl _, Nat.le_refl _⟩
    · cases h
  · split at h
    · unfold zv_cS at h
      split at h
      · exact hB rfl h
      · cases h
    · exact hO h
  · split at h
    · exact hV h
    · exact hO h
  · split at h
    · exact hV h
    · exact hO h
  · exact hO h
theorem zrun_ge {X : zv_X} : ∀ (n : Nat) (c : zv_C) (r : zv_R), zv_run X n c = some r → c.2.2.2.2.1.length ≤ r.2.1.length ∧ zsl c.2.2.2.2.1 ≤ zsl r.2.1
  | 0, _, _, h => by cases h
  | n + 1, c, r, h => by
    have h : zv_step X (zv_run X n) c = some r := h
    unfold zv_step at h
    split at h
    · rename_i b hb
      clear hb
      have key : ∀ (is : List zv_I) (ls : zv_L) (st : List Value) (μ : zv_M), zv_exe X c.1 (zv_run X n) is ls st μ = some r → μ.1.length ≤ r.2.1.length ∧ zsl μ.1 ≤ zsl r.2.1 := by
        intro is
        induction is with
        | nil => intro _ _ _ h9; cases h9
        | cons q is ih =>
          intro ls st μ h9
          exact zone_ge (zrun_ge n) (fun ls st μ h8 => ih ls st μ h8) (show zv_one X c.1 (zv_run X n) q ls st μ (fun ls st μ => zv_exe X c.1 (zv_run X n) is ls st μ) = some r from h9)
      exact key _ _ _ _ h
    · cases h
end ZFIX
end
section
/-! STATIC FACTS: which words stand where; each table is held against lw_tbl by the kernel -/
def zt_f : List (Nat × Nat × Nat × Nat × Nat) := [(0, 9, 0, 0, 140), (0, 15, 0, 1, 142), (0, 24, 0, 2, 144), (0, 28, 0, 3, 146), (1, 11, 1, 0, 376), (1, 20, 1, 1, 378), (1, 35, 5, 1, 344), (1, 39, 1, 2, 380), (1, 42, 5, 3, 347), (1, 49, 1, 3, 382), (1, 56, 5, 2, 345), (1, 67, 5, 0, 341), (1, 82, 5, 4, 351), (2, 10, 2, 0, 320), (2, 16, 2, 1, 321), (2, 39, 7, 5, 306), (2, 43, 7, 4, 304), (2, 46, 2, 2, 322), (2, 47, 2, 3, 324), (3, 9, 3, 0, 167), (3, 22, 4, 2, 113), (3, 34, 4, 0, 106), (4, 9, 4, 0, 105), (4, 15, 4, 1, 110), (4, 18, 4, 2, 112), (5, 7, 5, 0, 340), (5, 13, 5, 4, 350), (5, 16, 5, 5, 353), (5, 19, 5, 6, 355), (5, 22, 5, 7, 357), (5, 35, 5, 1, 343), (5, 45, 5, 3, 348), (5, 52, 5, 2, 346), (5, 61, 2, 2, 323), (5, 65, 2, 3, 325), (6, 9, 6, 0, 179), (6, 15, 6, 1, 180), (6, 18, 6, 3, 183), (6, 27, 6, 2, 181), (6, 31, 6, 4, 184), (7, 9, 7, 0, 299), (7, 15, 7, 1, 300), (7, 18, 7, 2, 301), (7, 22, 7, 3, 302), (7, 25, 7, 4, 303), (7, 29, 7, 5, 305), (8, 9, 8, 0, 399), (8, 15, 8, 1, 400), (8, 19, 9, 3, 206), (8, 34, 8, 2, 401), (8, 37, 9, 0, 198), (8, 41, 8, 3, 402), (8, 44, 8, 4, 403), (8, 47, 4, 2, 114), (8, 56, 4, 0, 107), (9, 12, 9, 0, 197), (9, 18, 9, 1, 201), (9, 30, 9, 3, 205), (9, 36, 9, 5, 211), (9, 43, 9, 6, 213), (9, 50, 9, 7, 215), (9, 64, 9, 2, 203), (9, 68, 9, 4, 209), (9, 74, 3, 0, 168), (9, 80, 4, 0, 108), (9, 82, 4, 2, 115), (10, 9, 10, 0, 242), (10, 18, 10, 2, 245), (10, 22, 10, 3, 247), (10, 26, 10, 5, 251), (10, 30, 10, 6, 253), (10, 33, 10, 7, 254), (10, 36, 10, 8, 255), (10, 39, 10, 1, 244), (10, 42, 9, 0, 199), (10, 49, 9, 3, 207), (10, 56, 10, 4, 249), (10, 62, 10, 9, 256), (11, 12, 11, 0, 416), (11, 16, 11, 1, 417), (11, 19, 11, 2, 418), (11, 26, 11, 3, 419), (11, 33, 11, 4, 420), (11, 37, 11, 5, 421), (11, 43, 11, 6, 422), (11, 47, 11, 7, 423), (11, 51, 10, 1, 243), (11, 63, 10, 4, 250), (11, 66, 9, 0, 200), (11, 70, 10, 2, 246), (11, 77, 10, 3, 248), (11, 80, 9, 3, 208), (11, 87, 9, 5, 212), (11, 99, 4, 2, 116), (11, 102, 10, 5, 252), (11, 142, 0, 0, 141), (11, 144, 0, 1, 143), (11, 147, 9, 2, 204), (11, 150, 4, 0, 109), (11, 156, 4, 1, 111), (11, 162, 1, 0, 377), (11, 166, 5, 4, 352), (11, 174, 5, 5, 354), (11, 177, 5, 6, 356), (11, 193, 1, 3, 383), (11, 202, 1, 2, 381), (11, 205, 5, 3, 349), (11, 208, 5, 0, 342), (11, 222, 9, 1, 202), (11, 233, 9, 6, 214), (11, 246, 3, 0, 169), (11, 261, 9, 7, 216), (11, 274, 6, 4, 185), (11, 288, 9, 4, 210), (11, 291, 0, 2, 145), (11, 294, 0, 3, 147), (11, 297, 6, 2, 182), (11, 303, 1, 1, 379), (12, 7, 12, 0, 1006), (12, 13, 12, 1, 1007), (12, 16, 12, 2, 1008), (12, 19, 12, 4, 1010), (12, 22, 12, 5, 1011), (12, 25, 12, 6, 1012), (12, 28, 12, 15, 1021), (12, 34, 12, 17, 1023), (12, 37, 12, 18, 1024), (12, 40, 12, 19, 1025), (12, 45, 12, 20, 1026), (12, 48, 12, 21, 1027), (12, 51, 12, 22, 1028), (12, 54, 12, 23, 1029), (12, 57, 12, 24, 1030), (12, 60, 12, 31, 1037), (12, 64, 12, 32, 1038), (12, 123, 12, 7, 1013), (12, 126, 12, 8, 1014), (12, 129, 12, 10, 1016), (12, 160, 12, 9, 1015), (12, 172, 12, 11, 1017), (12, 175, 12, 12, 1018), (12, 178, 12, 13, 1019), (12, 185, 12, 16, 1022), (12, 208, 12, 14, 1020), (12, 211, 12, 26, 1032), (12, 215, 12, 27, 1033), (12, 218, 12, 28, 1034), (12, 221, 12, 29, 1035), (12, 233, 12, 25, 1031), (12, 259, 12, 30, 1036), (12, 310, 12, 3, 1009)]
def zt_s : List (Nat × Nat × Nat × Nat) := [(22, 9, 8, 1418), (22, 15, 9, 1419)]
def zt_g : List (Nat × Nat × Nat × Nat) := [(9, 22, 1, 9999), (10, 112, 2, 9999), (10, 115, 3, 9999), (11, 216, 2, 712), (11, 219, 3, 713), (22, 38, 91, 507), (22, 1053, 90, 523)]
def zt_c : List (Nat × Nat × Nat × Nat) := [(1, 77, 2147483647, 823), (3, 15, 3294967295, 163), (8, 77, 40503, 920), (10, 89, 3294967297, 571), (10, 90, 999999999, 572), (10, 101, 99999, 608), (11, 141, 3294967295, 753), (11, 313, 3294967297, 612), (11, 314, 999999999, 613), (12, 67, 3294967297, 1150), (12, 68, 999999999, 1151), (12, 94, 99999, 1141), (12, 120, 3294967295, 1181)]
def zt_l : List (Nat × Nat × Nat × Nat) := [(8, 75, 1000000000, 919), (8, 78, 2147483647, 921), (11, 154, 18446744073709551615, 775), (11, 259, 5000, 932), (12, 121, 18446744073709551615, 1194), (12, 197, 999999999, 1261), (12, 224, 2, 1286), (12, 245, 9223372036854775808, 1302), (12, 283, 1000000000, 1374), (12, 285, 40503, 1375), (12, 287, 977, 1376), (12, 289, 2147483647, 1377), (12, 302, 4999, 1386)]
def zt_n : List (Nat × Nat × Nat × Nat) := [(1, 9, 5, 285), (1, 17, 2, 287), (2, 7, 7, 293), (9, 9, 4, 99), (9, 33, 0, 134), (9, 40, 3, 157), (9, 47, 6, 173), (10, 15, 4, 240), (11, 9, 9, 93), (11, 23, 10, 234), (11, 30, 1, 279), (11, 40, 8, 393), (20, 7, 11, 85), (20, 10, 12, 996)]
def zt_m : List (Nat × Nat × Nat × Nat) := [(1, 24, 28, 336), (1, 27, 29, 650), (1, 31, 31, 661), (1, 45, 30, 693), (1, 52, 36, 821), (1, 59, 197, 822), (1, 64, 199, 816), (1, 71, 9, 812), (1, 78, 7, 852), (1, 85, 34, 832), (2, 19, 46, 669), (2, 23, 199, 673), (2, 29, 197, 674), (2, 32, 47, 675), (2, 36, 48, 679), (3, 16, 207, 164), (3, 28, 199, 865), (3, 37, 197, 874), (3, 40, 18, 875), (4, 32, 22, 581), (4, 36, 21, 592), (4, 39, 26, 596), (4, 43, 27, 600), (5, 26, 199, 654), (5, 32, 197, 657), (5, 48, 35, 697), (5, 55, 14, 665), (5, 68, 32, 683), (5, 72, 33, 687), (5, 76, 198, 690), (5, 78, 195, 797), (5, 81, 34, 800), (5, 84, 200, 801), (6, 34, 43, 941), (6, 38, 44, 964), (6, 42, 199, 967), (6, 48, 197, 968), (8, 25, 199, 901), (8, 31, 197, 902), (8, 52, 52, 903), (8, 58, 54, 911), (8, 65, 21, 927), (8, 69, 53, 907), (8, 72, 55, 915), (9, 42, 15, 159), (9, 54, 20, 981), (9, 71, 1, 982), (9, 77, 38, 986), (9, 89, 60, 736), (10, 45, 20, 461), (10, 59, 73, 469), (10, 65, 65, 555), (10, 69, 66, 559), (10, 73, 68, 563), (10, 76, 69, 567), (10, 79, 70, 604), (10, 82, 71, 614), (10, 86, 72, 623), (10, 91, 67, 573), (10, 94, 24, 577), (10, 97, 25, 588), (10, 105, 23, 618), (10, 108, 22, 622), (10, 118, 74, 473), (10, 122, 78, 477), (10, 125, 75, 481), (10, 128, 79, 547), (10, 131, 76, 551), (10, 134, 80, 485), (10, 138, 77, 495), (10, 142, 201, 499), (10, 147, 202, 509), (11, 32, 5, 281), (11, 55, 63, 445), (11, 59, 64, 457), (11, 71, 20, 631), (11, 91, 2, 633), (11, 96, 113, 637), (11, 105, 118, 709), (11, 109, 117, 718), (11, 113, 24, 719), (11, 116, 23, 720), (11, 119, 25, 721), (11, 123, 3, 722), (11, 126, 59, 727), (11, 129, 61, 732), (11, 133, 22, 740), (11, 137, 4, 749), (11, 151, 21, 770), (11, 159, 114, 780), (11, 171, 34, 784), (11, 180, 35, 788), (11, 183, 36, 793), (11, 187, 8, 808), (11, 190, 7, 817), (11, 196, 12, 828), (11, 199, 115, 833), (11, 211, 196, 841), (11, 223, 6, 646), (11, 227, 10, 848), (11, 230, 11, 853), (11, 237, 16, 861), (11, 243, 17, 870), (11, 249, 116, 888), (11, 252, 50, 897), (11, 256, 51, 922), (11, 265, 39, 937), (11, 270, 40, 948), (11, 277, 41, 956), (11, 280, 42, 960), (11, 283, 57, 977), (11, 285, 60, 995), (11, 300, 58, 641), (11, 307, 14, 892), (12, 69, 121, 1138), (12, 73, 123, 1110), (12, 77, 124, 1114), (12, 81, 126, 1157), (12, 85, 129, 1130), (12, 88, 131, 1122), (12, 91, 130, 1126), (12, 95, 132, 1142), (12, 98, 134, 1169), (12, 102, 122, 1147), (12, 106, 125, 1152), (12, 110, 127, 1153), (12, 113, 128, 1161), (12, 117, 135, 1165), (12, 132, 201, 1227), (12, 137, 202, 1228), (12, 143, 147, 1223), (12, 157, 144, 1211), (12, 163, 145, 1215), (12, 166, 148, 1218), (12, 169, 146, 1234), (12, 181, 150, 1241), (12, 188, 149, 1207), (12, 191, 151, 1249), (12, 194, 152, 1253), (12, 199, 153, 1245), (12, 202, 154, 1257), (12, 205, 155, 1237), (12, 226, 159, 1282), (12, 229, 158, 1287), (12, 236, 160, 1278), (12, 240, 161, 1274), (12, 247, 163, 1303), (12, 250, 162, 1270), (12, 253, 165, 1290), (12, 256, 164, 1298), (12, 262, 168, 1314), (12, 266, 169, 1310), (12, 269, 171, 1322), (12, 273, 176, 1338), (12, 276, 177, 1346), (12, 279, 180, 1358), (12, 291, 182, 1370), (12, 294, 183, 1366), (12, 298, 184, 1378), (12, 304, 189, 1403), (12, 307, 190, 1399), (20, 9, 81, 87), (20, 12, 120, 998), (20, 13, 82, 441), (20, 17, 142, 1195), (20, 18, 83, 449), (20, 22, 143, 1199), (20, 23, 84, 453), (20, 27, 156, 1203), (20, 28, 85, 701), (20, 32, 157, 1262), (20, 33, 86, 705), (20, 37, 133, 1134), (20, 38, 87, 714), (20, 41, 136, 1143), (20, 42, 88, 741), (20, 45, 137, 1173), (20, 46, 89, 745), (20, 50, 138, 1177), (20, 51, 90, 754), (20, 54, 132, 1118), (20, 55, 91, 758), (20, 58, 125, 1106), (20, 59, 92, 762), (20, 62, 139, 1182), (20, 63, 93, 766), (20, 66, 140, 1186), (20, 67, 94, 771), (20, 71, 141, 1190), (20, 72, 95, 776), (20, 76, 166, 1266), (20, 77, 96, 789), (20, 80, 167, 1294), (20, 81, 97, 804), (20, 85, 170, 1306), (20, 86, 98, 824), (20, 89, 172, 1318), (20, 90, 99, 837), (20, 93, 173, 1326), (20, 94, 100, 844), (20, 97, 174, 1330), (20, 98, 101, 857), (20, 101, 175, 1334), (20, 102, 102, 866), (20, 105, 178, 1342), (20, 106, 103, 880), (20, 109, 179, 1350), (20, 110, 104, 884), (20, 113, 181, 1354), (20, 114, 105, 893), (20, 118, 185, 1362), (20, 119, 106, 928), (20, 123, 186, 1382), (20, 124, 107, 933), (20, 127, 187, 1387), (20, 128, 108, 944), (20, 132, 188, 1391), (20, 133, 109, 952), (20, 136, 191, 1395), (20, 137, 110, 969), (20, 140, 192, 1406), (20, 141, 111, 973), (20, 145, 193, 1410), (20, 146, 112, 991), (20, 149, 194, 1414), (22, 335, 203, 503), (22, 492, 204, 513), (22, 495, 206, 517), (22, 1059, 208, 525), (23, 9, 205, 520)]
def zt_mN : List (Nat × Nat × Nat) := [(1, 19, 13), (2, 9, 45), (4, 28, 119), (8, 62, 117), (9, 11, 19), (9, 35, 0), (9, 49, 37), (9, 85, 119), (10, 17, 19), (10, 102, 117), (11, 11, 56), (11, 25, 62), (11, 42, 49)]
def zt_a : List (Nat × Nat × Nat) := [(0, 18, 726), (3, 44, 879), (4, 22, 465), (5, 39, 660), (6, 21, 990), (9, 58, 645), (10, 50, 468), (11, 81, 632)]
def zt_o : List (Nat × Nat × Nat) := [(0, 3, 139), (1, 3, 284), (2, 1, 292), (3, 3, 162), (4, 3, 104), (5, 1, 339), (6, 3, 178), (7, 3, 298), (8, 3, 398), (9, 3, 98), (10, 3, 239), (11, 3, 90), (12, 1, 1001)]
def zt_k : List (Nat × Nat × Nat) := [(9, 26, 133)]
def zfw (a i b j : Nat) : Cond := match vwCl[b]? with
  | some r => .fieldLink (zv_cn a) i r.1 (r.2.1 j).2.1 (r.2.1 j).2.2.1
  | none => .tt
def zat_w (i : Nat) (w : Cond) : Bool := decide (lw_tbl[i]? = some w)
theorem zat_in {i : Nat} {w : Cond} (h : zat_w i w = true) (hg : goodWord w = true) : w ∈ zv_gw := zw_in (of_decide_eq_true h) hg
theorem zt_f_ok : zt_f.all (fun q => zat_w q.2.2.2.2 (zfw q.1 q.2.1 q.2.2.1 q.2.2.2.1)) = true := by decide +kernel
theorem zt_s_ok : zt_s.all (fun q => zat_w q.2.2.2 (.fieldLink (zv_cn q.1) q.2.1 "java/lang/String" (if q.2.2.1 = 8 then "value" else "coder") (if q.2.2.1 = 8 then "[B" else "B"))) = true := by decide +kernel
theorem zt_g_ok : (zt_g.filter (fun q => decide (q.2.2.2 ≠ 9999))).all (fun q => zat_w q.2.2.2 (.fieldLink (zv_cn q.1) q.2.1 (zsn q.2.2.1).1 (zsn q.2.2.1).2.1 (zsn q.2.2.1).2.2)) = true := by decide +kernel
theorem zt_gN_ok : (zt_g.filter (fun q => decide (q.2.2.2 = 9999))).all (fun q => decide (Cond.fieldLinkNest (zv_cn q.1) q.2.1 (zsn q.2.2.1).1 (zsn q.2.2.1).2.1 (zsn q.2.2.1).2.2 "GuessedPlace" ∈ zv_nw)) = true := by decide +kernel
theorem zt_c_ok : zt_c.all (fun q => zat_w q.2.2.2 (.constant (zv_cn q.1) q.2.1 (Int32.ofNat q.2.2.1))) = true := by decide +kernel
theorem zt_l_ok : zt_l.all (fun q => zat_w q.2.2.2 (.constantLong (zv_cn q.1) q.2.1 (Int64.ofNat q.2.2.1))) = true := by decide +kernel
theorem zt_n_ok : zt_n.all (fun q => zat_w q.2.2.2 (.classLink (zv_cn q.1) q.2.1 (zv_cn q.2.2.1))) = true := by decide +kernel
theorem zt_m_ok : zt_m.all (fun q => zat_w q.2.2.2 (.methodLink (zv_cn q.1) q.2.1 (zv_mn q.2.2.1))) = true := by decide +kernel
theorem zt_mN_ok : zt_mN.all (fun q => decide (Cond.methodLinkNest (zv_cn q.1) q.2.1 (zv_mn q.2.2) "GuessedPlace" ∈ zv_nw)) = true := by decide +kernel
theorem zt_a_ok : zt_a.all (fun q => zat_w q.2.2 (.methodLink (zv_cn q.1) q.2.1 arraycopyName)) = true := by decide +kernel
theorem zt_o_ok : zt_o.all (fun q => zat_w q.2.2 (.methodLink (zv_cn q.1) q.2.1 Lib.objectInit)) = true := by decide +kernel
theorem zt_k_ok : zt_k.all (fun q => zat_w q.2.2 (.classLink (zv_cn q.1) q.2.1 "[I")) = true := by decide +kernel
def zt_y : List (Nat × Nat × Nat × Nat × Nat) := [(0, 138, 68, 137, 0), (1, 985, 68, 983, 984), (2, 636, 68, 634, 635), (3, 725, 68, 723, 724), (4, 752, 68, 750, 751), (5, 283, 73, 282, 0), (6, 649, 73, 647, 648), (7, 820, 73, 818, 819), (8, 811, 73, 809, 810), (9, 815, 73, 814, 20), (10, 851, 73, 849, 850), (11, 856, 73, 854, 855), (12, 831, 73, 829, 830), (13, 291, 74, 290, 0), (14, 668, 74, 666, 667), (15, 161, 69, 160, 0), (16, 864, 69, 862, 863), (17, 873, 69, 871, 872), (18, 878, 69, 877, 22), (19, 103, 67, 102, 0), (20, 464, 67, 462, 463), (21, 595, 67, 593, 594), (22, 584, 67, 582, 583), (23, 621, 67, 619, 620), (24, 580, 67, 578, 579), (25, 591, 67, 589, 590), (26, 599, 67, 598, 12), (27, 603, 67, 602, 13), (28, 338, 76, 337, 0), (29, 653, 76, 651, 652), (30, 696, 76, 694, 695), (31, 664, 76, 662, 663), (32, 686, 76, 685, 18), (33, 689, 76, 688, 0), (34, 787, 76, 785, 786), (35, 700, 76, 698, 699), (36, 796, 76, 794, 795), (37, 177, 71, 176, 0), (38, 989, 71, 987, 988), (39, 940, 71, 938, 939), (40, 951, 71, 949, 950), (41, 959, 71, 957, 958), (42, 963, 71, 961, 962), (43, 943, 71, 942, 0), (44, 966, 71, 965, 0), (45, 297, 75, 296, 0), (46, 672, 75, 670, 671), (47, 678, 75, 676, 677), (48, 682, 75, 680, 681), (49, 397, 77, 396, 0), (50, 900, 77, 898, 899), (51, 925, 77, 923, 924), (52, 906, 77, 905, 24), (53, 910, 77, 909, 25), (54, 914, 77, 913, 26), (55, 918, 77, 917, 27), (56, 97, 66, 96, 0), (57, 980, 66, 978, 979), (58, 644, 66, 642, 643), (59, 730, 66, 728, 729), (60, 739, 66, 737, 738), (61, 735, 66, 733, 734), (62, 238, 72, 237, 0), (63, 448, 72, 446, 447), (64, 460, 72, 458, 459), (65, 558, 72, 557, 7), (66, 562, 72, 561, 8), (67, 576, 72, 575, 11), (68, 566, 72, 565, 9), (69, 570, 72, 569, 10), (70, 607, 72, 606, 14), (71, 617, 72, 616, 15), (72, 626, 72, 625, 16), (73, 472, 72, 471, 0), (74, 476, 72, 475, 1), (75, 484, 72, 483, 3), (76, 554, 72, 553, 6), (77, 498, 72, 497, 4), (78, 480, 72, 479, 2), (79, 550, 72, 549, 5), (80, 487, 72, 486, 0), (81, 89, 65, 88, 0), (82, 444, 65, 442, 443), (83, 452, 65, 450, 451), (84, 456, 65, 454, 455), (85, 704, 65, 702, 703), (86, 708, 65, 706, 707), (87, 717, 65, 715, 716), (88, 744, 65, 742, 743), (89, 748, 65, 746, 747), (90, 757, 65, 755, 756), (91, 761, 65, 759, 760), (92, 765, 65, 763, 764), (93, 769, 65, 767, 768), (94, 774, 65, 772, 773), (95, 779, 65, 777, 778), (96, 792, 65, 790, 791), (97, 807, 65, 805, 806), (98, 827, 65, 825, 826), (99, 840, 65, 838, 839), (100, 847, 65, 845, 846), (101, 860, 65, 858, 859), (102, 869, 65, 867, 868), (103, 883, 65, 881, 882), (104, 887, 65, 885, 886), (105, 896, 65, 894, 895), (106, 931, 65, 929, 930), (107, 936, 65, 934, 935), (108, 947, 65, 945, 946), (109, 955, 65, 953, 954), (110, 972, 65, 970, 971), (111, 976, 65, 974, 975), (112, 994, 65, 992, 993), (113, 640, 65, 639, 17), (114, 783, 65, 782, 19), (115, 836, 65, 835, 21), (116, 891, 65, 890, 23), (117, 611, 65, 610, 0), (118, 711, 65, 710, 0), (119, 587, 65, 586, 0), (120, 1000, 78, 999, 0), (121, 1140, 78, 1139, 0), (122, 1149, 78, 1148, 0), (123, 1113, 78, 1112, 28), (124, 1117, 78, 1116, 29), (125, 1109, 78, 1107, 1108), (126, 1160, 78, 1159, 34), (127, 1156, 78, 1155, 33), (128, 1164, 78, 1163, 35), (129, 1133, 78, 1132, 32), (130, 1129, 78, 1128, 31), (131, 1125, 78, 1124, 30), (132, 1121, 78, 1119, 1120), (133, 1137, 78, 1135, 1136), (134, 1172, 78, 1171, 37), (135, 1168, 78, 1167, 36), (136, 1146, 78, 1144, 1145), (137, 1176, 78, 1174, 1175), (138, 1180, 78, 1178, 1179), (139, 1185, 78, 1183, 1184), (140, 1189, 78, 1187, 1188), (141, 1193, 78, 1191, 1192), (142, 1198, 78, 1196, 1197), (143, 1202, 78, 1200, 1201), (144, 1214, 78, 1213, 39), (145, 1217, 78, 1216, 0), (146, 1236, 78, 1235, 0), (147, 1226, 78, 1225, 41), (148, 1221, 78, 1220, 40), (149, 1210, 78, 1209, 38), (150, 1244, 78, 1243, 43), (151, 1252, 78, 1251, 45), (152, 1256, 78, 1255, 46), (153, 1248, 78, 1247, 44), (154, 1260, 78, 1259, 47), (155, 1240, 78, 1239, 42), (156, 1206, 78, 1204, 1205), (157, 1265, 78, 1263, 1264), (158, 1289, 78, 1288, 0), (159, 1285, 78, 1284, 51), (160, 1281, 78, 1280, 50), (161, 1277, 78, 1276, 49), (162, 1273, 78, 1272, 48), (163, 1305, 78, 1304, 0), (164, 1301, 78, 1300, 53), (165, 1293, 78, 1292, 52), (166, 1269, 78, 1267, 1268), (167, 1297, 78, 1295, 1296), (168, 1317, 78, 1316, 55), (169, 1313, 78, 1312, 54), (170, 1309, 78, 1307, 1308), (171, 1325, 78, 1324, 56), (172, 1321, 78, 1319, 1320), (173, 1329, 78, 1327, 1328), (174, 1333, 78, 1331, 1332), (175, 1337, 78, 1335, 1336), (176, 1341, 78, 1340, 57), (177, 1349, 78, 1348, 58), (178, 1345, 78, 1343, 1344), (179, 1353, 78, 1351, 1352), (180, 1361, 78, 1360, 59), (181, 1357, 78, 1355, 1356), (182, 1373, 78, 1372, 61), (183, 1369, 78, 1368, 60), (184, 1381, 78, 1380, 62), (185, 1365, 78, 1363, 1364), (186, 1385, 78, 1383, 1384), (187, 1390, 78, 1388, 1389), (188, 1394, 78, 1392, 1393), (189, 1405, 78, 1404, 0), (190, 1402, 78, 1401, 63), (191, 1398, 78, 1396, 1397), (192, 1409, 78, 1407, 1408), (193, 1413, 78, 1411, 1412), (194, 1417, 78, 1415, 1416), (195, 799, 84, 798, 0), (196, 843, 84, 842, 0), (197, 659, 84, 658, 0), (198, 692, 84, 691, 0), (199, 656, 84, 655, 0), (200, 803, 84, 802, 0), (201, 502, 80, 500, 501), (202, 512, 80, 510, 511), (203, 506, 80, 504, 505), (204, 516, 80, 514, 515), (205, 522, 80, 521, 0), (206, 519, 81, 518, 0), (207, 166, 70, 165, 0), (208, 527, 82, 526, 0), (209, 0, 0, 0, 0)]
/-- which answer a number stands for -/
def zrc (r : Nat) (t : Option FieldType) : Bool := match r with
  | 0 => decide (t = none)
  | 1 => decide (t = some .int)
  | 2 => decide (t = some .long)
  | 3 => (match t with
    | some (.object _) => true
    | _ => false)
  | 4 => decide (t = some .boolean)
  | 5 => decide (t = some .char)
  | 6 => decide (t = some .byte)
  | _ => false
def zmcd (c : Nat) : Cond := .code (zv_mn c) (zv_mb c) (zv_mi c).1 (zv_mr c)
def zmchk (q : Nat × Nat × Nat × Nat × Nat) : Bool := zat_w q.2.2.1 (.initialized (zv_mn q.1).cls) && decide ((zv_mn q.1).cls = zv_cn (zv_mi q.1).2.2.1) && plainFor (zv_mn q.1) && zrc (zv_mi q.1).2.1 (zv_mr q.1) && decide ((zv_mn q.1).cls ≠ "java/lang/invoke/MethodHandle" ∧ (zv_mn q.1).cls ≠ "java/lang/invoke/VarHandle") && decide ((parseMethodDescriptor (zv_mn q.1).desc).map (fun d => d.parameters.length) = some (zv_mi q.1).2.2.2.2.2.2) && (match (zv_mi q.1).2.2.2.2.2.1 with
  | 0 => zat_w q.2.2.2.1 (.static (zv_mn q.1))
  | 1 => zat_w q.2.2.2.1 (.instanceMethod (zv_mn q.1)) && zat_w q.2.2.2.2 (.selects (zv_mn q.1).cls (zv_mn q.1) (zv_mn q.1))
  | 2 => zat_w q.2.2.2.1 (.instanceMethod (zv_mn q.1)) && decide ((zv_mn q.1).name = "<init>") && decide (zv_mr q.1 = none)
  | _ => false)
set_option maxRecDepth 100000 in
theorem zt_cd_0 : [0, 1, 2, 3, 4, 5, 6, 7, 8, 9, 10, 11, 12, 13, 14, 15, 16, 17, 18, 19, 20, 21, 22, 23, 24, 25, 26, 27, 28, 29].map zmcd = [138, 985, 636, 725, 752, 283, 649, 820, 811, 815, 851, 856, 831, 291, 668, 161, 864, 873, 878, 103, 464, 595, 584, 621, 580, 591, 599, 603, 338, 653].filterMap (fun i => lw_tbl[i]?) := rfl
set_option maxRecDepth 100000 in
theorem zt_cd_1 : [30, 31, 32, 33, 34, 35, 36, 37, 38, 39, 40, 41, 42, 43, 44, 45, 46, 47, 48, 49, 50, 51, 52, 53, 54, 55, 56, 57, 58, 59].map zmcd = [696, 664, 686, 689, 787, 700, 796, 177, 989, 940, 951, 959, 963, 943, 966, 297, 672, 678, 682, 397, 900, 925, 906, 910, 914, 918, 97, 980, 644, 730].filterMap (fun i => lw_tbl[i]?) := rfl
set_option maxRecDepth 100000 in
theorem zt_cd_2 : [60, 61, 62, 63, 64, 65, 66, 67, 68, 69, 70, 71, 72, 73, 74, 75, 76, 77, 78, 79, 80, 81, 82, 83, 84, 85, 86, 87, 88, 89].map zmcd = [739, 735, 238, 448, 460, 558, 562, 576, 566, 570, 607, 617, 626, 472, 476, 484, 554, 498, 480, 550, 487, 89, 444, 452, 456, 704, 708, 717, 744, 748].filterMap (fun i => lw_tbl[i]?) := rfl
set_option maxRecDepth 100000 in
theorem zt_cd_3 : [90, 91, 92, 93, 94, 95, 96, 97, 98, 99, 100, 101, 102, 103, 104, 105, 106, 107, 108, 109, 110, 111, 112, 113, 114, 115, 116, 117, 118, 119].map zmcd = [757, 761, 765, 769, 774, 779, 792, 807, 827, 840, 847, 860, 869, 883, 887, 896, 931, 936, 947, 955, 972, 976, 994, 640, 783, 836, 891, 611, 711, 587].filterMap (fun i => lw_tbl[i]?) := rfl
set_option maxRecDepth 100000 in
theorem zt_cd_4 : [120, 121, 122, 123, 124, 125, 126, 127, 128, 129, 130, 131, 132, 133, 134, 135, 136, 137, 138, 139, 140, 141, 142, 143, 144, 145, 146, 147, 148, 149].map zmcd = [1000, 1140, 1149, 1113, 1117, 1109, 1160, 1156, 1164, 1133, 1129, 1125, 1121, 1137, 1172, 1168, 1146, 1176, 1180, 1185, 1189, 1193, 1198, 1202, 1214, 1217, 1236, 1226, 1221, 1210].filterMap (fun i => lw_tbl[i]?) := rfl
set_option maxRecDepth 100000 in
theorem zt_cd_5 : [150, 151, 152, 153, 154, 155, 156, 157, 158, 159, 160, 161, 162, 163, 164, 165, 166, 167, 168, 169, 170, 171, 172, 173, 174, 175, 176, 177, 178, 179].map zmcd = [1244, 1252, 1256, 1248, 1260, 1240, 1206, 1265, 1289, 1285, 1281, 1277, 1273, 1305, 1301, 1293, 1269, 1297, 1317, 1313, 1309, 1325, 1321, 1329, 1333, 1337, 1341, 1349, 1345, 1353].filterMap (fun i => lw_tbl[i]?) := rfl
set_option maxRecDepth 100000 in
theorem zt_cd_6 : [180, 181, 182, 183, 184, 185, 186, 187, 188, 189, 190, 191, 192, 193, 194, 195, 196, 197, 198, 199, 200, 201, 202, 203, 204, 205, 206, 207, 208].map zmcd = [1361, 1357, 1373, 1369, 1381, 1365, 1385, 1390, 1394, 1405, 1402, 1398, 1409, 1413, 1417, 799, 843, 659, 692, 656, 803, 502, 512, 506, 516, 522, 519, 166, 527].filterMap (fun i => lw_tbl[i]?) := rfl
theorem zt_cd_ok : ∀ c, c < 209 → zmcd c ∈ zv_gw := by
  intro c hc
  have hm : zmcd c ∈ lw_tbl := by
    have key : ∀ {l : List Nat} {ps : List Nat}, l.map zmcd = ps.filterMap (fun i => lw_tbl[i]?) → c ∈ l → zmcd c ∈ lw_tbl := by
      intro l ps h hcl
      have h1 : zmcd c ∈ l.map zmcd := List.mem_map.mpr ⟨c, hcl, rfl⟩
      rw [h] at h1
      obtain ⟨i, -, hi⟩ := List.mem_filterMap.mp h1
      exact List.mem_of_getElem? hi
    by_cases h0 : c < 30
    · exact key zt_cd_0 (by simp only [List.mem_cons, List.not_mem_nil, or_false]; omega)
    by_cases h1 : c < 60
    · exact key zt_cd_1 (by simp only [List.mem_cons, List.not_mem_nil, or_false]; omega)
    by_cases h2 : c < 90
    · exact key zt_cd_2 (by simp only [List.mem_cons, List.not_mem_nil, or_false]; omega)
    by_cases h3 : c < 120
    · exact key zt_cd_3 (by simp only [List.mem_cons, List.not_mem_nil, or_false]; omega)
    by_cases h4 : c < 150
    · exact key zt_cd_4 (by simp only [List.mem_cons, List.not_mem_nil, or_false]; omega)
    by_cases h5 : c < 180
    · exact key zt_cd_5 (by simp only [List.mem_cons, List.not_mem_nil, or_false]; omega)
    by_cases h6 : c < 209
    · exact key zt_cd_6 (by simp only [List.mem_cons, List.not_mem_nil, or_false]; omega)
    omega
  exact List.mem_filter.mpr ⟨hm, rfl⟩
theorem zt_y_0 : ((zt_y.drop 0).take 30).all (fun q => decide (q.1 = 209) || zmchk q) = true := by decide +kernel
theorem zt_y_1 : ((zt_y.drop 30).take 30).all (fun q => decide (q.1 = 209) || zmchk q) = true := by decide +kernel
theorem zt_y_2 : ((zt_y.drop 60).take 30).all (fun q => decide (q.1 = 209) || zmchk q) = true := by decide +kernel
theorem zt_y_3 : ((zt_y.drop 90).take 30).all (fun q => decide (q.1 = 209) || zmchk q) = true := by decide +kernel
theorem zt_y_4 : ((zt_y.drop 120).take 30).all (fun q => decide (q.1 = 209) || zmchk q) = true := by decide +kernel
theorem zt_y_5 : ((zt_y.drop 150).take 30).all (fun q => decide (q.1 = 209) || zmchk q) = true := by decide +kernel
theorem zt_y_6 : ((zt_y.drop 180).take 30).all (fun q => decide (q.1 = 209) || zmchk q) = true := by decide +kernel
def zv_law : Nat := 209
theorem zt_y_ok : zt_y.all (fun q => decide (q.1 = 209) || zmchk q) = true := by
  have e : zt_y = (zt_y.drop 0).take 30 ++ ((zt_y.drop 30).take 30 ++ ((zt_y.drop 60).take 30 ++ ((zt_y.drop 90).take 30 ++ ((zt_y.drop 120).take 30 ++ ((zt_y.drop 150).take 30 ++ ((zt_y.drop 180).take 30)))))) := by decide +kernel
  rw [e]
  simp only [List.all_append, zt_y_0, zt_y_1, zt_y_2, zt_y_3, zt_y_4, zt_y_5, zt_y_6, Bool.and_self]
end
section
/-! THE CHECK of one instruction, and what it gives -/
def zlen : Instr → Nat
  | .iload _ | .lload _ | .aload _ | .istore _ | .lstore _ | .astore _ | .bipush _ | .ldc _ | .newarray _ => 2
  | .sipush _ | .iinc _ _ | .getfield _ | .putfield _ | .getstatic _ | .invokestatic _ | .invokevirtual _ | .invokespecial _ | .new _ | .anewarray _ | .checkcast _ | .ldc_w _ | .ldc2_w _ | .goto _ | .ifCond _ _ | .if_icmp _ _ | .ifnull _ => 3
  | .multianewarray _ _ => 4
  | _ => 1
def zdec (m : Nat) (q : zv_I) (n : Nat) : Bool := decide (decode (zv_mb m) q.1 = .ok (q.2.1, n))
def zjl (pc : Nat) (off : Int) (d : List Nat) : Bool := match d with
  | [l] => decide ((pc : Int) + off = (l : Int))
  | _ => false
def zow (m : Nat) : Nat := (zv_mi m).2.2.1
def zfc (m i : Nat) (d : List Nat) : Bool := match d with
  | [b, j, t] => if t < 4 then decide (b < 13) && decide (j < (zv_fs b).length) && decide ((zv_fs b).getD j 9 = t) && zt_f.any (fun q => q.1 == zow m && q.2.1 == i && q.2.2.1 == b && q.2.2.2.1 == j)
    else zt_s.any (fun q => q.1 == zow m && q.2.1 == i && q.2.2.1 == t)
  | _ => true
def zpc (m : Nat) (d : List Nat) : Bool := match d with
  | [b, j, _] => (match vwCl[b]? with
    | some r => !(r.2.1 j).2.2.2 || (decide ((zv_mi m).2.2.2.2.2.1 = 2) && decide (r.1 = zv_cn (zow m)))
    | none => false)
  | _ => true
def zcc (m i : Nat) (d : List Nat) : Bool := match d with
  | [0, v] => zt_c.any (fun q => q.1 == zow m && q.2.1 == i && q.2.2.1 == v)
  | [1, k] => zv_sr.any (fun q => q.1 == zow m && q.2.1 == i && q.2.2.2 == k)
  | _ => true
def zgc (m i : Nat) (d : List Nat) : Bool := match d with
  | [0, k] => (k == 1 || k == 2 || k == 3 || k == 90) && zt_g.any (fun q => q.1 == zow m && q.2.1 == i && q.2.2.1 == k)
  | [1, v] => v == 1 && zt_g.any (fun q => q.1 == zow m && q.2.1 == i && q.2.2.1 == 91)
  | _ => true
def znc (m i b : Nat) : Bool := zt_n.any (fun q => q.1 == zow m && q.2.1 == i && q.2.2.1 == b)
def zmc (m i : Nat) (d : List Nat) : Bool := match d with
  | [b, _, _] => decide (b < 209) && (zt_m.any (fun q => q.1 == zow m && q.2.1 == i && q.2.2.1 == b) || zt_mN.any (fun q => q.1 == zow m && q.2.1 == i && q.2.2 == b)) || b == 998
  | _ => false
def zt_q : List (Nat × Nat × Nat × Nat) := [(12, 32, 5, 1002), (12, 43, 6, 1004)]
theorem zt_q_ok : zt_q.all (fun q => zat_w q.2.2.2 (.classLink (zv_cn q.1) q.2.1 (if q.2.2.1 = 5 then "[[I" else "[[J"))) = true := by decide +kernel
def zchk (m : Nat) (q : zv_I) : Bool := match q.2.1 with
  | .nop => decide (q.2.2 = [q.1])
  | .goto off => zdec m q 3 && zjl q.1 off q.2.2
  | .ifCond _ off => zdec m q 3 && zjl q.1 off q.2.2
  | .if_icmp _ off => zdec m q 3 && zjl q.1 off q.2.2
  | .tableswitch df lo _ offs => (match q.2.2 with
    | n :: l0 :: tg => zdec m q n && decide ((q.1 : Int) + df = (l0 : Int)) && decide (tg.map (fun (l : Nat) => (l : Int)) = offs.toList.map (fun o => (q.1 : Int) + o))
    | _ => false)
  | .getfield i => zdec m q 3 && zfc m i q.2.2
  | .putfield i => zdec m q 3 && (zfc m i q.2.2 && zpc m q.2.2)
  | .ldc i => zdec m q 2 && zcc m i q.2.2
  | .ldc_w i => zdec m q 3 && (zcc m i q.2.2 && (match q.2.2 with
    | [1, _] => false
    | _ => true))
  | .ldc2_w i => zdec m q 3 && (match q.2.2 with
    | [v] => zt_l.any (fun q => q.1 == zow m && q.2.1 == i && q.2.2.1 == v)
    | _ => true)
  | .getstatic i => zdec m q 3 && zgc m i q.2.2
  | .new i => zdec m q 3 && (match q.2.2 with
    | [b] => znc m i b || decide (13 ≤ b)
    | _ => true)
  | .newarray y => zdec m q 2 && (match q.2.2 with
    | [t] => decide (t < 4) && decide (newarray.typeOf y = zat t)
    | _ => true)
  | .anewarray i => zdec m q 3 && znc m i 5
  | .checkcast i => zdec m q 3 && zt_k.any (fun q => q.1 == zow m && q.2.1 == i)
  | .multianewarray i dm => zdec m q 4 && (decide (dm = 2) && (match q.2.2 with
    | [ot, _] => zt_q.any (fun q => q.1 == zow m && q.2.1 == i && q.2.2.1 == ot)
    | _ => true))
  | .invokestatic i => zdec m q 3 && (match q.2.2 with
    | [1000] => zt_a.any (fun q => q.1 == zow m && q.2.1 == i) && decide (1 ≤ (zv_mi m).2.2.2.1) && decide (26 ≤ (zv_mi m).2.2.2.2.1)
    | d => zmc m i d)
  | .invokevirtual i => zdec m q 3 && (match q.2.2 with
    | [1001] => decide ((zow m = 9 ∧ 1 ≤ (zv_mi m).2.2.2.1 ∧ 22 ≤ (zv_mi m).2.2.2.2.1) ∧ i = 25)
    | d => zmc m i d)
  | .invokespecial i => zdec m q 3 && (match q.2.2 with
    | [1002] => zt_o.any (fun q => q.1 == zow m && q.2.1 == i) && decide (1 ≤ (zv_mi m).2.2.2.1) && decide (20 ≤ (zv_mi m).2.2.2.2.1)
    | d => zmc m i d)
  | i => zdec m q (zlen i)
def zchkl (m : Nat) : List zv_I → Bool
  | [] => true
  | q :: r => zchk m q && (match r with
    | [] => true
    | q' :: _ => decide (q'.1 = q.1 + zlen q.2.1)) && zchkl m r
/-- a block: it begins at its label -/
def zchkb (m : Nat) (b : Nat × List Bool × List zv_I) : Bool := zchkl m b.2.2 && (match b.2.2 with
  | [] => true
  | q :: _ => decide (q.1 = b.1))
theorem zand {a b : Bool} (h : (a && b) = true) : a = true ∧ b = true := by simpa using h
theorem zdec_ok {m pc n : Nat} {i : Instr} {d : List Nat} (h : zdec m (pc, i, d) n = true) : decode (zv_mb m) pc = .ok (i, n) := of_decide_eq_true h
theorem zfc_ok {m i : Nat} {d : List Nat} (h : zfc m i d = true) : ∀ b j t, d = [b, j, t] → zlf m i b j t := by
  rintro b j t rfl
  unfold zfc at h
  dsimp only at h
  refine ⟨fun ht => ?_, fun ht => ?_, fun ht => ?_⟩
  · rw [if_pos ht] at h
    simp only [Bool.and_eq_true, decide_eq_true_eq] at h
    obtain ⟨⟨⟨h1, h2⟩, h3⟩, h4⟩ := h
    refine ⟨h1, h2, h3, fun C T ty K => ?_⟩
    obtain ⟨q, hq, e⟩ := List.any_eq_true.mp h4
    simp only [Bool.and_eq_true, beq_iff_eq] at e
    obtain ⟨⟨⟨e1, e2⟩, e3⟩, e4⟩ := e
    have h5 := List.all_eq_true.mp zt_f_ok q hq
    rw [e1, e2, e3, e4] at h5
    have e6 : zfw (zow m) i b j = .fieldLink (zv_cn (zow m)) i C (T j).2.1 (T j).2.2.1 := by
      unfold zfw
      rw [K.1]
    rw [e6] at h5
    exact zat_in h5 rfl
  · subst ht
    rw [if_neg (by decide)] at h
    obtain ⟨q, hq, e⟩ := List.any_eq_true.mp h
    simp only [Bool.and_eq_true, beq_iff_eq] at e
    obtain ⟨⟨e1, e2⟩, e3⟩ := e
    have h5 := List.all_eq_true.mp zt_s_ok q hq
    rw [e1, e2, e3] at h5
    exact zat_in h5 rfl
  · subst ht
    rw [if_neg (by decide)] at h
    obtain ⟨q, hq, e⟩ := List.any_eq_true.mp h
    simp only [Bool.and_eq_true, beq_iff_eq] at e
    obtain ⟨⟨e1, e2⟩, e3⟩ := e
    have h5 := List.all_eq_true.mp zt_s_ok q hq
    rw [e1, e2, e3] at h5
    exact zat_in h5 rfl
theorem zpc_ok {m : Nat} {d : List Nat} (h : zpc m d = true) : ∀ b j t, d = [b, j, t] → zlp m b j := by
  rintro b j t rfl C T ty K
  unfold zpc at h
  dsimp only at h
  rw [K.1] at h
  dsimp only at h
  cases hf : (T j).2.2.2 with
  | false => exact Or.inl rfl
  | true =>
    rw [hf] at h
    simp only [Bool.not_true, Bool.false_or, Bool.and_eq_true, decide_eq_true_eq] at h
    exact Or.inr ⟨rfl, h.1, h.2⟩
theorem zcc_ok {m i : Nat} {d : List Nat} (h : zcc m i d = true) : zlc m i d := by
  refine ⟨?_, ?_⟩
  · rintro v rfl
    unfold zcc at h
    try dsimp only at h
    obtain ⟨q, hq, e⟩ := List.any_eq_true.mp h
    simp only [Bool.and_eq_true, beq_iff_eq] at e
    obtain ⟨⟨e1, e2⟩, e3⟩ := e
    have h5 := List.all_eq_true.mp zt_c_ok q hq
    rw [e1, e2, e3] at h5
    exact zat_in h5 rfl
  · rintro k rfl
    unfold zcc at h
    try dsimp only at h
    obtain ⟨q, hq, e⟩ := List.any_eq_true.mp h
    simp only [Bool.and_eq_true, beq_iff_eq] at e
    obtain ⟨⟨e1, e2⟩, e3⟩ := e
    obtain ⟨q1, q2, q3, q4⟩ := q
    dsimp only at e1 e2 e3
    subst e1 e2 e3
    exact ⟨q3, hq⟩
theorem zgt_ok {m i k : Nat} (h : zt_g.any (fun q => q.1 == zow m && q.2.1 == i && q.2.2.1 == k) = true) : zlg m i k := by
  obtain ⟨q, hq, e⟩ := List.any_eq_true.mp h
  simp only [Bool.and_eq_true, beq_iff_eq] at e
  obtain ⟨⟨e1, e2⟩, e3⟩ := e
  by_cases h9 : q.2.2.2 = 9999
  · have h5 := List.all_eq_true.mp zt_gN_ok q (List.mem_filter.mpr ⟨hq, decide_eq_true h9⟩)
    rw [e1, e2, e3] at h5
    exact Or.inr ⟨_, of_decide_eq_true h5⟩
  · have h5 := List.all_eq_true.mp zt_g_ok q (List.mem_filter.mpr ⟨hq, decide_eq_true h9⟩)
    rw [e1, e2, e3] at h5
    exact Or.inl (zat_in h5 rfl)
theorem zgc_ok {m i : Nat} {d : List Nat} (h : zgc m i d = true) : (∀ k, d = [0, k] → (k = 1 ∨ k = 2 ∨ k = 3 ∨ k = 90) ∧ zlg m i k) ∧ ∀ v, d = [1, v] → v = 1 ∧ zlg m i 91 := by
  refine ⟨?_, ?_⟩
  · rintro k rfl
    unfold zgc at h
    try dsimp only at h
    obtain ⟨h1, h2⟩ := zand h
    refine ⟨?_, zgt_ok h2⟩
    simp only [Bool.or_eq_true, beq_iff_eq] at h1
    omega
  · rintro v rfl
    unfold zgc at h
    try dsimp only at h
    obtain ⟨h1, h2⟩ := zand h
    exact ⟨by simpa using h1, zgt_ok h2⟩
theorem znc_ok {m i b : Nat} (h : znc m i b = true) : Cond.classLink (zv_cn (zow m)) i (zv_cn b) ∈ zv_gw := by
  obtain ⟨q, hq, e⟩ := List.any_eq_true.mp h
  simp only [Bool.and_eq_true, beq_iff_eq] at e
  obtain ⟨⟨e1, e2⟩, e3⟩ := e
  have h5 := List.all_eq_true.mp zt_n_ok q hq
  rw [e1, e2, e3] at h5
  exact zat_in h5 rfl
theorem zt_ac : Cond.arrayClass .int ∈ zv_gw ∧ Cond.arrayClass .long ∈ zv_gw ∧ Cond.arrayClass .byte ∈ zv_gw ∧ Cond.arrayClass .boolean ∈ zv_gw := by
  refine ⟨?_, ?_, ?_, ?_⟩ <;> decide +kernel
theorem zt_sy : Cond.native arraycopyName ∈ zv_gw ∧ Cond.static arraycopyName ∈ zv_gw ∧ Cond.initialized "java/lang/System" ∈ zv_gw ∧ Cond.instanceMethod Lib.objectInit ∈ zv_gw ∧ Cond.code Lib.objectInit ⟨#[0xb1]⟩ 1 none ∈ zv_gw := by
  refine ⟨?_, ?_, ?_, ?_, ?_⟩ <;> decide +kernel
section ZOPS
variable {X : zv_X} {s0 : Nat} {ov : Nat → Value} {cA : Nat → ClassId} {D : va_G} {n0 z0 : Nat} {res : zv_R} {m : Nat} {p : Program} {l : Launch} {e : Env} {R : Room} {s : State} {mid : MethodId} {args : Array Value} {below : List Frame} {meth : Method} {c : Code} {Q : State → Prop}
variable {pc : Nat} {d : List Nat} {ls : zv_L} {st : List Value} {μ : zv_M} {k : zv_L → List Value → zv_M → Option zv_R}
theorem zs_ops (C : zCx X s0 ov cA D n0 z0 res m p R s mid args meth c) {i : Instr} (hc : zchk m (pc, i, d) = true) (h : zv_op X i d ls st μ k = some res) (h1 : ∀ n, i ≠ .invokestatic n) (h2 : ∀ n, i ≠ .invokevirtual n) (h3 : ∀ n, i ≠ .invokespecial n) (hM : ∀ (idx dm : Nat), i = .multianewarray idx dm → zW X s0 ov cA D n0 z0 res m p l e R s mid args below meth c Q pc ls st μ) (hk : ∀ ls st μ, k ls st μ = some res → zW X s0 ov cA D n0 z0 res m p l e R s mid args below meth c Q (pc + zlen i) ls st μ) : zW X s0 ov cA D n0 z0 res m p l e R s mid args below meth c Q pc ls st μ := by
  cases i with
  | iadd => exact zs_iadd C (zdec_ok hc) h hk
  | isub => exact zs_isub C (zdec_ok hc) h hk
  | imul => exact zs_imul C (zdec_ok hc) h hk
  | iand => exact zs_iand C (zdec_ok hc) h hk
  | ior => exact zs_ior C (zdec_ok hc) h hk
  | ishl => exact zs_ishl C (zdec_ok hc) h hk
  | ishr => exact zs_ishr C (zdec_ok hc) h hk
  | ladd => exact zs_ladd C (zdec_ok hc) h hk
  | lsub => exact zs_lsub C (zdec_ok hc) h hk
  | lmul => exact zs_lmul C (zdec_ok hc) h hk
  | lxor => exact zs_lxor C (zdec_ok hc) h hk
  | lcmp => exact zs_lcmp C (zdec_ok hc) h hk
  | idiv => exact zs_idiv C (zdec_ok hc) h hk
  | irem => exact zs_irem C (zdec_ok hc) h hk
  | ldiv => exact zs_ldiv C (zdec_ok hc) h hk
  | lrem => exact zs_lrem C (zdec_ok hc) h hk
  | ineg => exact zs_ineg C (zdec_ok hc) h hk
  | i2l => exact zs_i2l C (zdec_ok hc) h hk
  | i2b => exact zs_i2b C (zdec_ok hc) h hk
  | i2c => exact zs_i2c C (zdec_ok hc) h hk
  | lneg => exact zs_lneg C (zdec_ok hc) h hk
  | l2i => exact zs_l2i C (zdec_ok hc) h hk
  | iconst n => exact zs_iconst C (zdec_ok hc) h hk
  | bipush n => exact zs_bipush C (zdec_ok hc) h hk
  | sipush n => exact zs_sipush C (zdec_ok hc) h hk
  | lconst n => exact zs_lconst C (zdec_ok hc) h hk
  | iload_n n => exact zs_iload_n C (zdec_ok hc) h hk
  | iload n => exact zs_iload C (zdec_ok hc) h hk
  | lload_n n => exact zs_lload_n C (zdec_ok hc) h hk
  | lload n => exact zs_lload C (zdec_ok hc) h hk
  | aload_n n => exact zs_aload_n C (zdec_ok hc) h hk
  | aload n => exact zs_aload C (zdec_ok hc) h hk
  | istore_n n => exact zs_istore_n C (zdec_ok hc) h hk
  | istore n => exact zs_istore C (zdec_ok hc) h hk
  | lstore_n n => exact zs_lstore_n C (zdec_ok hc) h hk
  | lstore n => exact zs_lstore C (zdec_ok hc) h hk
  | astore_n n => exact zs_astore_n C (zdec_ok hc) h hk
  | astore n => exact zs_astore C (zdec_ok hc) h hk
  | iinc n b => exact zs_iinc C (zdec_ok hc) h hk
  | dup => exact zs_dup C (zdec_ok hc) h hk
  | pop => exact zs_pop C (zdec_ok hc) h hk
  | dup2 => exact zs_dup2 C (zdec_ok hc) h hk
  | iaload => exact zs_iaload C (zdec_ok hc) h hk
  | baload => exact zs_baload C (zdec_ok hc) h hk
  | laload => exact zs_laload C (zdec_ok hc) h hk
  | aaload => exact zs_aaload C (zdec_ok hc) h hk
  | iastore => exact zs_iastore C (zdec_ok hc) h hk
  | bastore => exact zs_bastore C (zdec_ok hc) h hk
  | lastore => exact zs_lastore C (zdec_ok hc) h hk
  | aastore => exact zs_aastore C (zdec_ok hc) h hk
  | arraylength => exact zs_arraylength C (zdec_ok hc) h hk
  | getfield n =>
    obtain ⟨a1, a2⟩ := zand hc
    exact zs_getfield C (zdec_ok a1) (zfc_ok a2) h hk
  | putfield n =>
    obtain ⟨a1, a2⟩ := zand hc
    obtain ⟨a2, a3⟩ := zand a2
    exact zs_putfield C (zdec_ok a1) (fun b j t e => ⟨zfc_ok a2 b j t e, zpc_ok a3 b j t e⟩) h hk
  | ldc n =>
    obtain ⟨a1, a2⟩ := zand hc
    exact zs_ldc C (zdec_ok a1) (zcc_ok a2) h hk
  | ldc_w n =>
    obtain ⟨a1, a2⟩ := zand hc
    obtain ⟨a2, a3⟩ := zand a2
    exact zs_ldc_w C (zdec_ok a1) (zcc_ok a2) (fun j e => by subst e; cases a3) h hk
  | ldc2_w n =>
    obtain ⟨a1, a2⟩ := zand hc
    refine zs_ldc2_w C (zdec_ok a1) (fun v e => ?_) h hk
    subst e
    obtain ⟨q, hq, e⟩ := List.any_eq_true.mp a2
    simp only [Bool.and_eq_true, beq_iff_eq] at e
    obtain ⟨⟨e1, e2⟩, e3⟩ := e
    have h5 := List.all_eq_true.mp zt_l_ok q hq
    rw [e1, e2, e3] at h5
    exact zat_in h5 rfl
  | getstatic n =>
    obtain ⟨a1, a2⟩ := zand hc
    exact zs_getstatic C (zdec_ok a1) (zgc_ok a2) h hk
  | new n =>
    obtain ⟨a1, a2⟩ := zand hc
    refine zs_new C (zdec_ok a1) (fun b e hb Cn Tn tyn K => ?_) h hk
    subst e
    dsimp only at a2
    have a3 : znc m n b = true := by
      rcases Bool.or_eq_true _ _ ▸ a2 with a3 | a3
      · exact a3
      · have := of_decide_eq_true a3
        omega
    rw [K.2.2.2.2.2.2.2.2]
    exact znc_ok a3
  | newarray y =>
    obtain ⟨a1, a2⟩ := zand hc
    refine zs_newarray C (zdec_ok a1) (fun t e ht => ?_) h hk
    subst e
    obtain ⟨a3, a4⟩ := zand a2
    refine ⟨of_decide_eq_true a4, ?_⟩
    rcases (show t = 0 ∨ t = 1 ∨ t = 2 ∨ t = 3 by omega) with rfl | rfl | rfl | rfl
    · exact zt_ac.1
    · exact zt_ac.2.1
    · exact zt_ac.2.2.1
    · exact zt_ac.2.2.2
  | anewarray n =>
    obtain ⟨a1, a2⟩ := zand hc
    exact zs_anewarray C (zdec_ok a1) (znc_ok a2) h hk
  | checkcast n =>
    obtain ⟨a1, a2⟩ := zand hc
    refine zs_checkcast C (zdec_ok a1) ?_ h hk
    obtain ⟨q, hq, e⟩ := List.any_eq_true.mp a2
    simp only [Bool.and_eq_true, beq_iff_eq] at e
    obtain ⟨e1, e2⟩ := e
    have h5 := List.all_eq_true.mp zt_k_ok q hq
    rw [e1, e2] at h5
    exact zat_in h5 rfl
  | multianewarray n dm => exact hM n dm rfl
  | invokestatic n => exact absurd rfl (h1 n)
  | invokevirtual n => exact absurd rfl (h2 n)
  | invokespecial n => exact absurd rfl (h3 n)
  | _ => exact absurd h (by unfold zv_op; exact fun q => by cases q)
end ZOPS
end
section
/-! CALLS: a method's contract, out of its run -/
def zv_ws (b : Nat) : List Cond := zmcd b :: zv_gw
def zv_rm (b : Nat) (μ : zv_M) (r : zv_R) : Room := { frames := (zv_mi b).2.2.2.1, cells := r.2.1.length - μ.1.length, slots := zsl r.2.1 - zsl μ.1, locals := (zv_mi b).2.2.2.2.1 }
def zPre (X : zv_X) (s0 : Nat) (ov : Nat → Value) (cA : Nat → ClassId) (D : va_G) (μ : zv_M) (U : State) : Prop := U.heap.size = s0 + μ.1.length ∧ va_P D vwCl (zws s0 cA μ) U.heap ∧ va_K D vwCl (zv_tys cA) U ∧ zG X s0 ov U U.heap
def zPost (s0 : Nat) (ov : Nat → Value) (cA : Nat → ClassId) (D : va_G) (r : zv_R) : Array Value → State → Outcome → State → Prop := fun _ st oc t => (oc = .returned (r.1.map (zc s0 ov)) ∧ va_P D vwCl (zws s0 cA r.2) t.heap) ∧ va_F (fun q => s0 ≤ q) st t
def zMet (l : Launch) (X : zv_X) (s0 : Nat) (ov : Nat → Value) (cA : Nat → ClassId) (D : va_G) (b : Nat) (as : List Value) (μ : zv_M) (r : zv_R) : Prop := Met l (zv_mn b) (zv_ws b) (zv_rm b μ r) (va_Pc (as.map (zc s0 ov)) (zPre X s0 ov cA D μ)) (zPost s0 ov cA D r) (r.2.1.length - μ.1.length) (zsl r.2.1 - zsl μ.1) (fun q => s0 ≤ q)
theorem zA2_moved {ty : FieldType} {u U : State} (hv : u.vm.Alike U.vm) (h : zA2 ty u) : zA2 ty U := by
  obtain ⟨c0, c5, k, h1, h2, h3, h4⟩ := h
  obtain ⟨k', hk', he⟩ := hv.2.2 _ _ h3
  exact ⟨c0, c5, k', by rw [hv.findClass]; exact h1, by rw [hv.findClass]; exact h2, hk', by rw [he]; exact h4⟩
theorem zNw_warm {s U : State} (hW : s.WarmedH U.vm) (h : ∀ w ∈ zv_nw, va_Nw w s) : ∀ w ∈ zv_nw, va_Nw w U := by
  intro w hw
  have h9 := h w hw
  simp only [zv_nw, List.mem_cons, List.not_mem_nil, or_false] at hw
  rcases hw with rfl | rfl | rfl | rfl | rfl | rfl | rfl | rfl | rfl | rfl | rfl | rfl | rfl | rfl | rfl | rfl | rfl <;> first | exact va_Nw.warmF hW h9 | exact va_Nw.warmM hW h9 | exact va_Nw.warmC hW h9
theorem zG_to {X : zv_X} {s0 : Nat} {ov : Nat → Value} {s U : State} {H : Heap} (h : zG X s0 ov s s.heap) (hq : ∀ a : Nat, a < s.heap.size → ¬ s0 ≤ a → H[a]? = s.heap[a]?) (hU : U.heap = H) (hW : s.WarmedH U.vm) : zG X s0 ov U U.heap := by
  obtain ⟨g1, g2, ⟨z1, z2, z3, z4, z5⟩, g4, g5, g6, g7, g8, t, cell, e1, e2, e3, e4, e5, e6, e7, e8⟩ := h
  have hv := hW.alike
  rw [hU]
  refine ⟨fun i hi => ?_, fun i hi => ?_, ⟨?_, ?_, ?_, ?_, ?_⟩, fun q hq' => ?_, zNw_warm hW g5, va_AO.moved hv g6, zA2_moved hv g7, zA2_moved hv g8, t, cell, e1, e2, ?_, e4, e5, by rw [hv.findClass]; exact e6, e7, e8⟩
  · obtain ⟨t, a1, a2⟩ := g1 i hi
    exact ⟨t, a1, (va_T.moved hv a2).kept hq⟩
  · obtain ⟨t, b, a1, a2, a3, a4, a5, a6⟩ := g2 i hi
    exact ⟨t, b, a1, a2, (va_O.moved hv a3).kept hq, (va_OF.moved hv a4).kept hq, (va_OF.moved hv a5).kept hq, (va_T.moved hv a6).kept hq⟩
  · exact (va_Z.moved hv z1).kept hq
  · exact (va_Z.moved hv z2).kept hq
  · exact (va_Z.moved hv z3).kept hq
  · exact (va_Z.moved hv z4).kept hq
  · exact (va_Z.moved hv z5).kept hq
  · obtain ⟨a, a1, a2⟩ := g4 q hq'
    exact ⟨a, a1, vk_R.warm hW a2⟩
  · rw [hq t (Array.getElem?_eq_some_iff.mp e3).1 e2]
    exact e3
theorem zPc_blind {X : zv_X} {s0 : Nat} {ov : Nat → Value} {cA : Nat → ClassId} {D : va_G} {μ : zv_M} {av : List Value} : FrameBlind (va_Pc av (zPre X s0 ov cA D μ)) := by
  intro a U g mk h
  obtain ⟨h0, h1, h2, h3, h4⟩ := h
  have hW : U.WarmedH (U.calling g mk a).vm := State.WarmedH.refl U
  exact ⟨h0, h1, h2, va_K.moved hW.alike h3, zG_to (U := U.calling g mk a) h4 (fun _ _ _ => rfl) rfl hW⟩
theorem zPre_at {X : zv_X} {s0 : Nat} {ov : Nat → Value} {cA : Nat → ClassId} {D : va_G} {μ : zv_M} {s U : State} {H : Heap} {locs : List Loc} (hG : zG X s0 ov s s.heap) (hK : va_K D vwCl (zv_tys cA) s) (hP : va_P D vwCl (zws s0 cA μ) H) (hS : va_S (fun q => s0 ≤ q) s.heap H locs) (hsz : H.size = s0 + μ.1.length) (hU : U.heap = H) (hW : s.WarmedH U.vm) : zPre X s0 ov cA D μ U := ⟨by rw [hU]; exact hsz, by rw [hU]; exact hP, va_K.moved hW.alike hK, zG_to hG hS.2.1 hU hW⟩
theorem zgood (b : Nat) (hb : b < 209) : GoodIn zv_gw (zv_ws b) := by
  intro w hw
  rcases List.mem_cons.mp hw with rfl | hw
  · exact ⟨zt_cd_ok b hb, Or.inl rfl⟩
  · exact ⟨hw, good_of_word (List.mem_filter.mp hw).2⟩
/-- what the tables say of a method -/
theorem zmeth (b : Nat) (hb : b < 209) : Cond.initialized (zv_mn b).cls ∈ zv_gw ∧ (zv_mn b).cls = zv_cn (zv_mi b).2.2.1 ∧ plainFor (zv_mn b) = true ∧ zrc (zv_mi b).2.1 (zv_mr b) = true ∧ ((zv_mn b).cls ≠ "java/lang/invoke/MethodHandle" ∧ (zv_mn b).cls ≠ "java/lang/invoke/VarHandle" ∧ (parseMethodDescriptor (zv_mn b).desc).map (fun d => d.parameters.length) = some (zv_mi b).2.2.2.2.2.2) ∧
    ((zv_mi b).2.2.2.2.2.1 = 0 → Cond.static (zv_mn b) ∈ zv_gw) ∧ ((zv_mi b).2.2.2.2.2.1 = 1 → Cond.instanceMethod (zv_mn b) ∈ zv_gw ∧ Cond.selects (zv_mn b).cls (zv_mn b) (zv_mn b) ∈ zv_gw) ∧ ((zv_mi b).2.2.2.2.2.1 = 2 → Cond.instanceMethod (zv_mn b) ∈ zv_gw ∧ (zv_mn b).name = "<init>" ∧ zv_mr b = none) := by
  have hlen : zt_y.length = 210 := by decide +kernel
  have hidx : ∀ i, i < 210 → (zt_y[i]?).map (fun q => q.1) = some i := by decide +kernel
  obtain ⟨q, hq⟩ : ∃ q, zt_y[b]? = some q := ⟨_, List.getElem?_eq_getElem (by omega)⟩
  have e := hidx b (by omega)
  rw [hq] at e
  have e : q.1 = b := Option.some.inj e
  have h := List.all_eq_true.mp zt_y_ok q (List.mem_of_getElem? hq)
  have h : zmchk q = true := by
    rcases Bool.or_eq_true _ _ ▸ h with h | h
    · have := of_decide_eq_true h
      omega
    · exact h
  unfold zmchk at h
  rw [e] at h
  simp only [Bool.and_eq_true] at h
  obtain ⟨⟨⟨⟨⟨⟨h1, h2⟩, h3⟩, h4⟩, h5⟩, h6⟩, h7⟩ := h
  have h5 := of_decide_eq_true h5
  refine ⟨zat_in h1 rfl, of_decide_eq_true h2, h3, h4, ⟨h5.1, h5.2, of_decide_eq_true h6⟩, fun k => ?_, fun k => ?_, fun k => ?_⟩
  · rw [k] at h7
    exact zat_in h7 rfl
  · rw [k] at h7
    obtain ⟨a, b⟩ := zand h7
    exact ⟨zat_in a rfl, zat_in b rfl⟩
  · rw [k] at h7
    obtain ⟨a, b⟩ := zand h7
    obtain ⟨a, c⟩ := zand a
    exact ⟨zat_in a rfl, of_decide_eq_true c, of_decide_eq_true b⟩
theorem zlink {m i b n rk : Nat} (h : zmc m i [b, n, rk] = true) (hb : b ≠ 998) : b < 209 ∧ (Cond.methodLink (zv_cn (zow m)) i (zv_mn b) ∈ zv_gw ∨ Cond.methodLinkNest (zv_cn (zow m)) i (zv_mn b) "GuessedPlace" ∈ zv_nw) := by
  unfold zmc at h
  dsimp only at h
  rcases Bool.or_eq_true _ _ ▸ h with h | h
  · obtain ⟨h1, h2⟩ := zand h
    refine ⟨of_decide_eq_true h1, ?_⟩
    rcases Bool.or_eq_true _ _ ▸ h2 with h2 | h2
    · obtain ⟨q, hq, e⟩ := List.any_eq_true.mp h2
      simp only [Bool.and_eq_true, beq_iff_eq] at e
      obtain ⟨⟨e1, e2⟩, e3⟩ := e
      have h5 := List.all_eq_true.mp zt_m_ok q hq
      rw [e1, e2, e3] at h5
      exact Or.inl (zat_in h5 rfl)
    · obtain ⟨q, hq, e⟩ := List.any_eq_true.mp h2
      simp only [Bool.and_eq_true, beq_iff_eq] at e
      obtain ⟨⟨e1, e2⟩, e3⟩ := e
      have h5 := List.all_eq_true.mp zt_mN_ok q hq
      rw [e1, e2, e3] at h5
      exact Or.inr (of_decide_eq_true h5)
  · exact absurd (by simpa using h) hb
section ZCALL
variable {X : zv_X} {s0 : Nat} {ov : Nat → Value} {cA : Nat → ClassId} {D : va_G} {n0 z0 : Nat} {res : zv_R} {m : Nat} {p : Program} {l : Launch} {e : Env} {R : Room} {s : State} {mid : MethodId} {args : Array Value} {below : List Frame} {meth : Method} {c : Code} {Q : State → Prop}
variable {pc : Nat} {d : List Nat} {ls : zv_L} {st : List Value} {μ : zv_M} {k : zv_L → List Value → zv_M → Option zv_R}
theorem zcallW {H : Heap} {locs : List Loc} {cells slots mc ms : Nat} {rl : Array Slot} {st0 rest : List Value} {Qa : State → Outcome → State → Prop} (hr : va_Run p l e R s mid args below meth c H locs cells slots mc ms (F0 mid pc rl st0) rest Qa (fun q => s0 ≤ q)) (hS : va_S (fun q => s0 ≤ q) s.heap H locs) (hQ : ∀ st v t, Qa st (.returned v) t → va_F (fun q => s0 ≤ q) st t)
    (kk : ∀ (v : Option Value) (st₀ t : State) (locs1 : List Loc), Qa st₀ (.returned v) t → va_S (fun q => s0 ≤ q) s.heap t.heap locs1 → W p l e R s mid args below meth c t.heap locs1 (cells + mc) (slots + ms) Q (F0 mid (pc + 3) rl (v.toList ++ rest))) : W p l e R s mid args below meth c H locs cells slots Q (F0 mid pc rl st0) := by
  intro T hT X9
  obtain ⟨v, st₀, t, T', L, h0, X', hL, e1, e2, hq, st⟩ := hr T hT X9
  obtain ⟨f1, f2⟩ := hQ _ _ _ hq
  rw [h0] at f1 f2
  obtain ⟨t2, a1, b1⟩ := kk v st₀ t (locs ++ L) hq ⟨Nat.le_trans hS.1 f1, fun q h1 h2 => (f2 q (Nat.lt_of_lt_of_le h1 hS.1) h2).trans (hS.2.1 q h1 h2), fun q hq' => by
    rcases List.mem_append.mp hq' with h | h
    · exact hS.2.2 q h
    · exact hL q h⟩ T' e1 X'
  exact ⟨t2, st t2 a1, b1⟩
theorem zHsz {H : Heap} {locs : List Loc} (hP : va_P D vwCl (zws s0 cA μ) H) (hS : va_S (fun q => s0 ≤ q) s.heap H locs) (hs : s0 ≤ s.heap.size) (hle : H.size ≤ s0 + μ.1.length) : H.size = s0 + μ.1.length := by
  by_cases h0 : μ.1.length = 0
  · have := hS.1
    omega
  · have := (hP (μ.1.length - 1) _ (zws_get (by omega))).lt
    have h9 : s0 + (μ.1.length - 1) < H.size := this
    omega
/-- the room of a call, and its words -/
theorem zs_CB (C : zCx X s0 ov cA D n0 z0 res m p R s mid args meth c) {b n kd idx : Nat} {r1 : zv_R} {as rest : List Value} (hb : b < 209) (hfit : zv_fit m b n kd as rest = true) : ((zv_rm b μ r1).frames + 1 ≤ R.frames ∧ 8 + ((zv_mi b).1 + 11) + (zv_rm b μ r1).locals ≤ R.locals) ∧ (rest.map fun v => v.category).sum ≤ 8 ∧ (zv_flt as).length ≤ (zv_mi b).1 ∧ (zv_mi b).2.2.2.2.2.1 = kd ∧ (zv_mi b).2.2.2.2.2.2 = n := by
  unfold zv_fit at hfit
  simp only [Bool.and_eq_true, decide_eq_true_eq] at hfit
  obtain ⟨⟨⟨⟨⟨f1, f2⟩, f3⟩, f4⟩, f5⟩, f6⟩ := hfit
  have a1 := C.2.2.2.2.2.2.2.2.1
  have a2 := C.2.2.2.2.2.2.2.2.2.1
  refine ⟨⟨?_, ?_⟩, f3, f4, f5, f6⟩
  · show (zv_mi b).2.2.2.1 + 1 ≤ R.frames
    omega
  · show 8 + ((zv_mi b).1 + 11) + (zv_mi b).2.2.2.2.1 ≤ R.locals
    omega
theorem zs_cS (C : zCx X s0 ov cA D n0 z0 res m p R s mid args meth c) {K : zv_C → Option zv_R} (hCall : ∀ (b : Nat) (as : List Value) (μ : zv_M) (r : zv_R), K (b, 0, zv_ent b as, [], μ) = some r → b < 209 → (zv_flt as).length ≤ (zv_mi b).1 → (μ.1.length ≤ r.2.1.length ∧ zsl μ.1 ≤ zsl r.2.1) ∧ zMet l X s0 ov cA D b as μ r) {idx b n rk : Nat} (hd : decode (zv_mb m) pc = .ok (.invokestatic idx, 3)) (hc : zmc m idx [b, n, rk] = true) (h : zv_cS m K b n rk st μ (fun st μ => k ls st μ) = some res) (hk : ∀ ls st μ, k ls st μ = some res → zW X s0 ov cA D n0 z0 res m p l e R s mid args below meth c Q (pc + 3) ls st μ) : zW X s0 ov cA D n0 z0 res m p l e R s mid args below meth c Q pc ls st μ := by
  unfold zv_cS at h
  split at h
  · rename_i hq
    obtain ⟨hq1, hfit⟩ := hq
    obtain ⟨r1, st', hr1, hk2, hst', -⟩ := zbk_spec h
    have hb9 : b ≠ 998 := by
      intro e
      subst e
      revert hfit
      unfold zv_fit
      have e9 : zv_mi 998 = (0, 0, 99, 0, 0, 9, 0) := by decide +kernel
      rw [e9]
      simp
    obtain ⟨hb, hlink⟩ := zlink hc hb9
    obtain ⟨hR, hroom, hflt, hkd, hnp⟩ := zs_CB (μ := μ) (r1 := r1) (idx := idx) C hb hfit
    have M := zmeth b hb
    have g := hk _ _ _ hk2
    obtain ⟨gm, hMet⟩ := hCall b _ μ r1 hr1 hb hflt
    refine ⟨⟨Nat.le_trans gm.1 g.1.1, Nat.le_trans gm.2 g.1.2⟩, fun H locs rl h1 h2 hP hS hl hL => ?_⟩
    have hc1 : μ.1.length - n0 + (r1.2.1.length - μ.1.length) ≤ R.cells := by
      have a1 := g.1.1
      have a2 := C.2.2.2.2.2.2.2.2.2.2.2.2.2.1
      have a3 := gm.1
      omega
    have hs1 : zsl μ.1 - z0 + (zsl r1.2.1 - zsl μ.1) ≤ R.slots := by
      have a1 := g.1.2
      have a2 := C.2.2.2.2.2.2.2.2.2.2.2.2.2.2.1
      have a3 := gm.2
      omega
    refine W_have (P := H.size = s0 + μ.1.length) (fun T hT X9 => by
      have := X9.heapSize
      rw [hT, C.2.2.2.2.2.2.2.2.2.2.2.2.1] at this
      exact zHsz hP hS (by rw [C.2.2.2.2.2.2.2.2.2.2.2.2.1]; exact Nat.le_add_right _ _) (by omega)) (fun hsz => ?_)
    refine zcallW (mc := r1.2.1.length - μ.1.length) (ms := zsl r1.2.1 - zsl μ.1) (rest := ((st.drop n).map (zc s0 ov))) (Qa := zPost s0 ov cA D r1 (((st.take n).reverse.map (zc s0 ov))).toArray) ?_ hS (fun st v t h9 => h9.2) (fun v st₀ t locs1 h9 hS1 => ?_)
    · have hn : ((st.take n).reverse.map (zc s0 ov)).length = n := by simp [Nat.min_eq_left hq1]
      have hstk : st.map (zc s0 ov) = ((st.take n).reverse.map (zc s0 ov)).reverse ++ (st.drop n).map (zc s0 ov) := by
        rw [← List.map_reverse, List.reverse_reverse, ← List.map_append, List.take_append_drop]
      have hpre : PreS s H (va_Pc ((st.take n).reverse.map (zc s0 ov)) (zPre X s0 ov cA D μ)) ((st.take n).reverse.map (zc s0 ov)) := ⟨zPc_blind, fun U hU hW => ⟨rfl, zPre_at C.2.2.2.2.2.2.2.2.2.2.2.1 C.2.2.2.2.2.2.2.2.2.2.1 hP hS hsz hU hW⟩⟩
      rcases hlink with hlink | hlink
      · exact va_runS (n := n) ⟨C.1, C.2.1, C.2.2.1, C.2.2.2.1, C.2.2.2.2.1⟩ hMet ⟨callB_of n C.2.2.2.2.1 (zgood b hb) rfl rfl rfl (C.2.2.2.2.1 _ M.1) (C.2.2.2.2.1 _ hlink) (by rw [← hnp]; exact M.2.2.2.2.1) hR, C.2.2.2.2.1 _ (M.2.2.2.2.2.1 hkd)⟩ hpre rfl hn hl.1 hstk (lv_room (by rw [zc_cats C.2.2.2.2.2.2.2.2.2.2.2.2.2.2.2.1]; exact hroom)) hd ⟨hc1, hs1⟩
      · exact va_runSN (n := n) (host := "GuessedPlace") ⟨C.1, C.2.1, C.2.2.1, C.2.2.2.1, C.2.2.2.2.1⟩ hMet ⟨va_cnB n C.2.2.2.2.1 (zgood b hb) rfl rfl rfl (C.2.2.2.2.2.2.2.2.2.2.2.1.2.2.2.2.1 _ hlink) (C.2.2.2.2.1 _ M.1) (by rw [← hnp]; exact M.2.2.2.2.1) hR, C.2.2.2.2.1 _ (M.2.2.2.2.2.1 hkd), trivial⟩ hpre rfl hn hl.1 hstk (lv_room (by rw [zc_cats C.2.2.2.2.2.2.2.2.2.2.2.2.2.2.2.1]; exact hroom)) hd ⟨hc1, hs1⟩
    · obtain ⟨⟨e1, e2⟩, -⟩ := h9
      cases e1
      refine W.cs (cells' := r1.2.1.length - n0) (slots' := zsl r1.2.1 - z0) (by have a3 := gm.1; omega) (by have a3 := gm.2; omega) ?_
      have g2 := g.2 t.heap locs1 rl (Nat.le_trans h1 gm.1) (Nat.le_trans h2 gm.2) e2 hS1 hl hL
      have e3 : st'.map (zc s0 ov) = (r1.1.map (zc s0 ov)).toList ++ ((st.drop n).map (zc s0 ov)) := by
        rw [hst', List.map_append]
        congr 1
        cases r1.1 <;> rfl
      rw [e3] at g2
      exact g2
  · cases h
/-- the receiver of a call -/
theorem zs_recv (C : zCx X s0 ov cA D n0 z0 res m p R s mid args meth c) {b : Nat} {v : Value} {r y : Option zv_R} {H : Heap} {locs : List Loc} {q : zv_R} (hb : b < 209) (h : zv_rcv b v μ r = some q) (hP : va_P D vwCl (zws s0 cA μ) H) (hS : va_S (fun q => s0 ≤ q) s.heap H locs) : ∃ a, zc s0 ov v = .ref a ∧ ∃ cell : Cell, H[a]? = some cell ∧ cell.vm.isStatics = false ∧ s.vm.findClass (zv_mn b).cls = some cell.cls := by
  have M := zmeth b hb
  unfold zv_rcv at h
  split at h
  · rename_i a
    obtain ⟨hsh, -⟩ := zob_spec h
    refine ⟨s0 + a, rfl, ?_⟩
    have hq : ∃ r9, vwCl[(zv_mi b).2.2.1]? = some r9 ∧ r9.1 = zv_cn (zv_mi b).2.2.1 := by
      obtain ⟨r9, h1, -⟩ := hP a _ (zws_ob hsh)
      refine ⟨r9, h1, ?_⟩
      have hlt : (zv_mi b).2.2.1 < 13 := (List.getElem?_eq_some_iff.mp h1).1
      obtain ⟨Cn, Tn, tyn, K9⟩ := zk_all _ hlt
      have e := Option.some.inj (h1.symm.trans K9.1)
      rw [e]
      exact K9.2.2.2.2.2.2.2.2
    obtain ⟨r9, h1, h2⟩ := hq
    have h3 := va_recv C.2.2.2.2.2.2.2.2.2.2.1 hP h1 (zws_ob hsh)
    rw [h2] at h3
    rw [M.2.1]
    exact h3
  · rename_i i
    split at h
    · rename_i hi
      obtain ⟨t, b9, q1, -, q3, -⟩ := C.2.2.2.2.2.2.2.2.2.2.2.1.2.1 (i - 20) (by omega)
      have e1 : 20 + (i - 20) = i := by omega
      rw [e1] at q1
      refine ⟨t, q1, ?_⟩
      rw [M.2.1, hi.2.2]
      exact va_Orecv q3 hS
    · cases h
  · cases h
theorem zs_cV (C : zCx X s0 ov cA D n0 z0 res m p R s mid args meth c) {K : zv_C → Option zv_R} (hCall : ∀ (b : Nat) (as : List Value) (μ : zv_M) (r : zv_R), K (b, 0, zv_ent b as, [], μ) = some r → b < 209 → (zv_flt as).length ≤ (zv_mi b).1 → (μ.1.length ≤ r.2.1.length ∧ zsl μ.1 ≤ zsl r.2.1) ∧ zMet l X s0 ov cA D b as μ r) {idx b n rk : Nat} (hd : decode (zv_mb m) pc = .ok (.invokevirtual idx, 3)) (hc : zmc m idx [b, n, rk] = true) (h : zv_cV m 1 K b n rk st μ (fun st μ => k ls st μ) = some res) (hk : ∀ ls st μ, k ls st μ = some res → zW X s0 ov cA D n0 z0 res m p l e R s mid args below meth c Q (pc + 3) ls st μ) : zW X s0 ov cA D n0 z0 res m p l e R s mid args below meth c Q pc ls st μ := by
  unfold zv_cV at h
  split at h
  · rename_i rv rest hrv
    split at h
    · rename_i hq
      obtain ⟨hq1, hfit⟩ := hq
      have hrc := h
      obtain ⟨h, -⟩ := zrcv_spec h
      obtain ⟨r1, st', hr1, hk2, hst', -⟩ := zbk_spec h
      have hb9 : b ≠ 998 := by
        intro e
        subst e
        revert hfit
        unfold zv_fit
        have e9 : zv_mi 998 = (0, 0, 99, 0, 0, 9, 0) := by decide +kernel
        rw [e9]
        simp
      obtain ⟨hb, hlink⟩ := zlink hc hb9
      obtain ⟨hR, hroom, hflt, hkd, hnp⟩ := zs_CB (μ := μ) (r1 := r1) (idx := idx) C hb hfit
      have M := zmeth b hb
      have g := hk _ _ _ hk2
      obtain ⟨gm, hMet⟩ := hCall b _ μ r1 hr1 hb hflt
      refine ⟨⟨Nat.le_trans gm.1 g.1.1, Nat.le_trans gm.2 g.1.2⟩, fun H locs rl h1 h2 hP hS hl hL => ?_⟩
      have hc1 : μ.1.length - n0 + (r1.2.1.length - μ.1.length) ≤ R.cells := by
        have a1 := g.1.1
        have a2 := C.2.2.2.2.2.2.2.2.2.2.2.2.2.1
        have a3 := gm.1
        omega
      have hs1 : zsl μ.1 - z0 + (zsl r1.2.1 - zsl μ.1) ≤ R.slots := by
        have a1 := g.1.2
        have a2 := C.2.2.2.2.2.2.2.2.2.2.2.2.2.2.1
        have a3 := gm.2
        omega
      refine W_have (P := H.size = s0 + μ.1.length) (fun T hT X9 => by
        have := X9.heapSize
        rw [hT, C.2.2.2.2.2.2.2.2.2.2.2.2.1] at this
        exact zHsz hP hS (by rw [C.2.2.2.2.2.2.2.2.2.2.2.2.1]; exact Nat.le_add_right _ _) (by omega)) (fun hsz => ?_)
      refine zcallW (mc := r1.2.1.length - μ.1.length) (ms := zsl r1.2.1 - zsl μ.1) (rest := (rest.map (zc s0 ov))) (Qa := zPost s0 ov cA D r1 ((zc s0 ov rv :: (st.take n).reverse.map (zc s0 ov))).toArray) ?_ hS (fun st v t h9 => h9.2) (fun v st₀ t locs1 h9 hS1 => ?_)
      · obtain ⟨a, ea, hcell⟩ := zs_recv (y := none) C hb hrc hP hS
        have hn : ((st.take n).reverse.map (zc s0 ov)).length = n := by simp [Nat.min_eq_left hq1]
        have hstk : st.map (zc s0 ov) = ((st.take n).reverse.map (zc s0 ov)).reverse ++ .ref a :: rest.map (zc s0 ov) := by
          rw [← List.map_reverse, List.reverse_reverse, ← ea, ← List.map_cons, ← hrv, ← List.map_append, List.take_append_drop]
        rw [ea]
        have hMet : Met l (zv_mn b) (zv_ws b) (zv_rm b μ r1) (va_Pc (.ref a :: (st.take n).reverse.map (zc s0 ov)) (zPre X s0 ov cA D μ)) (zPost s0 ov cA D r1) (r1.2.1.length - μ.1.length) (zsl r1.2.1 - zsl μ.1) (fun q => s0 ≤ q) := by
          have h9 := hMet
          unfold zMet at h9
          rw [List.map_cons, ea] at h9
          exact h9
        have hpre : PreV s H (zv_mn b).cls a (va_Pc (.ref a :: (st.take n).reverse.map (zc s0 ov)) (zPre X s0 ov cA D μ)) ((st.take n).reverse.map (zc s0 ov)) := ⟨zPc_blind, hcell, fun U hU hW => ⟨rfl, zPre_at C.2.2.2.2.2.2.2.2.2.2.2.1 C.2.2.2.2.2.2.2.2.2.2.1 hP hS hsz hU hW⟩⟩
        rcases hlink with hlink | hlink
        · exact va_runV (n := n) (C := (zv_mn b).cls) ⟨C.1, C.2.1, C.2.2.1, C.2.2.2.1, C.2.2.2.2.1⟩ hMet ⟨callB_of n C.2.2.2.2.1 (zgood b hb) rfl rfl rfl (C.2.2.2.2.1 _ M.1) (C.2.2.2.2.1 _ hlink) (by rw [← hnp]; exact M.2.2.2.2.1) hR, C.2.2.2.2.1 _ (M.2.2.2.2.2.2.1 hkd).1, C.2.2.2.2.1 _ (M.2.2.2.2.2.2.1 hkd).2⟩ hpre rfl hn hl.1 hstk (lv_room (by rw [zc_cats C.2.2.2.2.2.2.2.2.2.2.2.2.2.2.2.1]; exact hroom)) hd ⟨hc1, hs1⟩
        · exact va_runVN (n := n) (C := (zv_mn b).cls) (host := "GuessedPlace") ⟨C.1, C.2.1, C.2.2.1, C.2.2.2.1, C.2.2.2.2.1⟩ hMet ⟨va_cnB n C.2.2.2.2.1 (zgood b hb) rfl rfl rfl (C.2.2.2.2.2.2.2.2.2.2.2.1.2.2.2.2.1 _ hlink) (C.2.2.2.2.1 _ M.1) (by rw [← hnp]; exact M.2.2.2.2.1) hR, C.2.2.2.2.1 _ (M.2.2.2.2.2.2.1 hkd).1, C.2.2.2.2.1 _ (M.2.2.2.2.2.2.1 hkd).2⟩ hpre rfl hn hl.1 hstk (lv_room (by rw [zc_cats C.2.2.2.2.2.2.2.2.2.2.2.2.2.2.2.1]; exact hroom)) hd ⟨hc1, hs1⟩
      · obtain ⟨⟨e1, e2⟩, -⟩ := h9
        cases e1
        refine W.cs (cells' := r1.2.1.length - n0) (slots' := zsl r1.2.1 - z0) (by have a3 := gm.1; omega) (by have a3 := gm.2; omega) ?_
        have g2 := g.2 t.heap locs1 rl (Nat.le_trans h1 gm.1) (Nat.le_trans h2 gm.2) e2 hS1 hl hL
        have e3 : st'.map (zc s0 ov) = (r1.1.map (zc s0 ov)).toList ++ (rest.map (zc s0 ov)) := by
          rw [hst', List.map_append]
          congr 1
          cases r1.1 <;> rfl
        rw [e3] at g2
        exact g2
    · cases h
  · cases h
theorem zs_cI (C : zCx X s0 ov cA D n0 z0 res m p R s mid args meth c) {K : zv_C → Option zv_R} (hCall : ∀ (b : Nat) (as : List Value) (μ : zv_M) (r : zv_R), K (b, 0, zv_ent b as, [], μ) = some r → b < 209 → (zv_flt as).length ≤ (zv_mi b).1 → (μ.1.length ≤ r.2.1.length ∧ zsl μ.1 ≤ zsl r.2.1) ∧ zMet l X s0 ov cA D b as μ r) {idx b n rk : Nat} (hd : decode (zv_mb m) pc = .ok (.invokespecial idx, 3)) (hc : zmc m idx [b, n, rk] = true) (h : zv_cV m 2 K b n rk st μ (fun st μ => k ls st μ) = some res) (hk : ∀ ls st μ, k ls st μ = some res → zW X s0 ov cA D n0 z0 res m p l e R s mid args below meth c Q (pc + 3) ls st μ) : zW X s0 ov cA D n0 z0 res m p l e R s mid args below meth c Q pc ls st μ := by
  unfold zv_cV at h
  split at h
  · rename_i rv rest hrv
    split at h
    · rename_i hq
      obtain ⟨hq1, hfit⟩ := hq
      have hrc := h
      obtain ⟨h, -⟩ := zrcv_spec h
      obtain ⟨r1, st', hr1, hk2, hst', -⟩ := zbk_spec h
      have hb9 : b ≠ 998 := by
        intro e
        subst e
        revert hfit
        unfold zv_fit
        have e9 : zv_mi 998 = (0, 0, 99, 0, 0, 9, 0) := by decide +kernel
        rw [e9]
        simp
      obtain ⟨hb, hlink⟩ := zlink hc hb9
      obtain ⟨hR, hroom, hflt, hkd, hnp⟩ := zs_CB (μ := μ) (r1 := r1) (idx := idx) C hb hfit
      have M := zmeth b hb
      have g := hk _ _ _ hk2
      obtain ⟨gm, hMet⟩ := hCall b _ μ r1 hr1 hb hflt
      refine ⟨⟨Nat.le_trans gm.1 g.1.1, Nat.le_trans gm.2 g.1.2⟩, fun H locs rl h1 h2 hP hS hl hL => ?_⟩
      have hc1 : μ.1.length - n0 + (r1.2.1.length - μ.1.length) ≤ R.cells := by
        have a1 := g.1.1
        have a2 := C.2.2.2.2.2.2.2.2.2.2.2.2.2.1
        have a3 := gm.1
        omega
      have hs1 : zsl μ.1 - z0 + (zsl r1.2.1 - zsl μ.1) ≤ R.slots := by
        have a1 := g.1.2
        have a2 := C.2.2.2.2.2.2.2.2.2.2.2.2.2.2.1
        have a3 := gm.2
        omega
      refine W_have (P := H.size = s0 + μ.1.length) (fun T hT X9 => by
        have := X9.heapSize
        rw [hT, C.2.2.2.2.2.2.2.2.2.2.2.2.1] at this
        exact zHsz hP hS (by rw [C.2.2.2.2.2.2.2.2.2.2.2.2.1]; exact Nat.le_add_right _ _) (by omega)) (fun hsz => ?_)
      refine zcallW (mc := r1.2.1.length - μ.1.length) (ms := zsl r1.2.1 - zsl μ.1) (rest := (rest.map (zc s0 ov))) (Qa := zPost s0 ov cA D r1 ((zc s0 ov rv :: (st.take n).reverse.map (zc s0 ov))).toArray) ?_ hS (fun st v t h9 => h9.2) (fun v st₀ t locs1 h9 hS1 => ?_)
      · obtain ⟨a, ea, hcell⟩ := zs_recv (y := none) C hb hrc hP hS
        have hn : ((st.take n).reverse.map (zc s0 ov)).length = n := by simp [Nat.min_eq_left hq1]
        have hstk : st.map (zc s0 ov) = ((st.take n).reverse.map (zc s0 ov)).reverse ++ .ref a :: rest.map (zc s0 ov) := by
          rw [← List.map_reverse, List.reverse_reverse, ← ea, ← List.map_cons, ← hrv, ← List.map_append, List.take_append_drop]
        rw [ea]
        have hMet : Met l (zv_mn b) (zv_ws b) (zv_rm b μ r1) (va_Pc (.ref a :: (st.take n).reverse.map (zc s0 ov)) (zPre X s0 ov cA D μ)) (zPost s0 ov cA D r1) (r1.2.1.length - μ.1.length) (zsl r1.2.1 - zsl μ.1) (fun q => s0 ≤ q) := by
          have h9 := hMet
          unfold zMet at h9
          rw [List.map_cons, ea] at h9
          exact h9
        have hpre : PreS s H (va_Pc (.ref a :: (st.take n).reverse.map (zc s0 ov)) (zPre X s0 ov cA D μ)) (.ref a :: (st.take n).reverse.map (zc s0 ov)) := ⟨zPc_blind, fun U hU hW => ⟨rfl, zPre_at C.2.2.2.2.2.2.2.2.2.2.2.1 C.2.2.2.2.2.2.2.2.2.2.1 hP hS hsz hU hW⟩⟩
        have M2 := M.2.2.2.2.2.2.2 hkd
        have ews : zv_ws b = Cond.code (zv_mn b) (zv_mb b) (zv_mi b).1 none :: zv_gw := by
          unfold zv_ws zmcd
          rw [M2.2.2]
        rcases hlink with hlink | hlink
        · exact va_runI (n := n) (maxL := (zv_mi b).1) (bytes := zv_mb b) ⟨C.1, C.2.1, C.2.2.1, C.2.2.2.1, C.2.2.2.2.1⟩ hMet ⟨callB_of n C.2.2.2.2.1 (zgood b hb) ews rfl rfl (C.2.2.2.2.1 _ M.1) (C.2.2.2.2.1 _ hlink) (by rw [← hnp]; exact M.2.2.2.2.1) hR, M2.2.1, C.2.2.2.2.1 _ M2.1⟩ hpre rfl hn hl.1 hstk (lv_room (by rw [zc_cats C.2.2.2.2.2.2.2.2.2.2.2.2.2.2.2.1]; exact hroom)) hd ⟨hc1, hs1⟩
        · exact va_runIN (n := n) (maxL := (zv_mi b).1) (bytes := zv_mb b) (host := "GuessedPlace") ⟨C.1, C.2.1, C.2.2.1, C.2.2.2.1, C.2.2.2.2.1⟩ hMet ⟨va_cnB n C.2.2.2.2.1 (zgood b hb) ews rfl rfl (C.2.2.2.2.2.2.2.2.2.2.2.1.2.2.2.2.1 _ hlink) (C.2.2.2.2.1 _ M.1) (by rw [← hnp]; exact M.2.2.2.2.1) hR, M2.2.1, C.2.2.2.2.1 _ M2.1⟩ hpre rfl hn hl.1 hstk (lv_room (by rw [zc_cats C.2.2.2.2.2.2.2.2.2.2.2.2.2.2.2.1]; exact hroom)) hd ⟨hc1, hs1⟩
      · obtain ⟨⟨e1, e2⟩, -⟩ := h9
        cases e1
        refine W.cs (cells' := r1.2.1.length - n0) (slots' := zsl r1.2.1 - z0) (by have a3 := gm.1; omega) (by have a3 := gm.2; omega) ?_
        have g2 := g.2 t.heap locs1 rl (Nat.le_trans h1 gm.1) (Nat.le_trans h2 gm.2) e2 hS1 hl hL
        have e3 : st'.map (zc s0 ov) = (r1.1.map (zc s0 ov)).toList ++ (rest.map (zc s0 ov)) := by
          rw [hst', List.map_append]
          congr 1
          cases r1.1 <;> rfl
        rw [e3] at g2
        exact g2
    · cases h
  · cases h
end ZCALL
end
section
section ZMAIN
variable {X : zv_X} {s0 : Nat} {ov : Nat → Value} {cA : Nat → ClassId} {D : va_G} {n0 z0 : Nat} {res : zv_R} {m : Nat} {p : Program} {l : Launch} {e : Env} {R : Room} {s : State} {mid : MethodId} {args : Array Value} {below : List Frame} {meth : Method} {c : Code} {Q : State → Prop}
variable {pc : Nat} {d : List Nat} {ls : zv_L} {st : List Value} {μ : zv_M} {k : zv_L → List Value → zv_M → Option zv_R}
theorem zmsk_len : ∀ (bs : List Bool) (ls : zv_L), (zv_msk bs ls).length = ls.length
  | [], ls => by cases ls <;> rfl
  | true :: bs, [] => rfl
  | false :: bs, [] => rfl
  | true :: bs, v :: ls => by simp [zv_msk, zmsk_len bs ls]
  | false :: bs, v :: ls => by simp [zv_msk, zmsk_len bs ls]
theorem zmsk_at : ∀ (bs : List Bool) (ls : zv_L) (j : Nat) (v : Value), (zv_msk bs ls)[j]? = some (some v) → ls[j]? = some (some v)
  | [], ls, j, v, h => by cases ls <;> exact h
  | true :: bs, [], j, v, h => h
  | false :: bs, [], j, v, h => h
  | true :: bs, w :: ls, 0, v, h => h
  | false :: bs, w :: ls, 0, v, h => by simp [zv_msk] at h
  | true :: bs, w :: ls, j + 1, v, h => by
    simp only [zv_msk, List.getElem?_cons_succ] at h ⊢
    exact zmsk_at bs ls j v h
  | false :: bs, w :: ls, j + 1, v, h => by
    simp only [zv_msk, List.getElem?_cons_succ] at h ⊢
    exact zmsk_at bs ls j v h
theorem zs_jmp {K : zv_C → Option zv_R} (hJ : ∀ l9 ls st μ, K (m, l9, ls, st, μ) = some res → zW X s0 ov cA D n0 z0 res m p l e R s mid args below meth c Q l9 ls st μ) {l9 : Nat} (h : K (zv_jmp m l9 ls st μ) = some res) : zW X s0 ov cA D n0 z0 res m p l e R s mid args below meth c Q l9 ls st μ := by
  unfold zv_jmp at h
  split at h
  · rename_i b hb
    have g := hJ _ _ _ _ h
    exact ⟨g.1, fun H locs rl h1 h2 hP hS hl hL => g.2 H locs rl h1 h2 hP hS (zal_sub hl (fun j v hv => zal_mem.mpr ⟨v, zmsk_at _ _ _ _ hv, rfl⟩)) (by rw [zmsk_len]; exact hL)⟩
  · exact hJ _ _ _ _ h
theorem zs_ifc (C : zCx X s0 ov cA D n0 z0 res m p R s mid args meth c) {K : zv_C → Option zv_R} (hJ : ∀ l9 ls st μ, K (m, l9, ls, st, μ) = some res → zW X s0 ov cA D n0 z0 res m p l e R s mid args below meth c Q l9 ls st μ) {b9 : ClassFile.Cond} {off : Int} {l9 : Nat} {x : Int32} (hd : decode (zv_mb m) pc = .ok (.ifCond b9 off, 3)) (ht : (pc : Int) + off = (l9 : Int)) (h : zv_if b9 x 0 (K (zv_jmp m l9 ls st μ)) (k ls st μ) = some res) (hk : ∀ ls st μ, k ls st μ = some res → zW X s0 ov cA D n0 z0 res m p l e R s mid args below meth c Q (pc + 3) ls st μ) : zW X s0 ov cA D n0 z0 res m p l e R s mid args below meth c Q pc ls (.int x :: st) μ := by
  unfold zv_if at h
  cases b9
  · dsimp only at h
    split at h
    · rename_i hx
      have g := zs_jmp hJ h
      exact ⟨g.1, fun H locs rl h1 h2 hP hS hl hL => lv_if_eq C.1 C.2.1 hd ht (fun _ => g.2 H locs rl h1 h2 hP hS hl hL) (fun h9 => absurd hx h9)⟩
    · rename_i hx
      have g := hk _ _ _ h
      exact ⟨g.1, fun H locs rl h1 h2 hP hS hl hL => lv_if_eq C.1 C.2.1 hd ht (fun h9 => absurd h9 hx) (fun _ => g.2 H locs rl h1 h2 hP hS hl hL)⟩
  · dsimp only at h
    split at h
    · rename_i hx
      have g := hk _ _ _ h
      exact ⟨g.1, fun H locs rl h1 h2 hP hS hl hL => lv_if_ne C.1 C.2.1 hd ht (fun h9 => absurd hx h9) (fun _ => g.2 H locs rl h1 h2 hP hS hl hL)⟩
    · rename_i hx
      have g := zs_jmp hJ h
      exact ⟨g.1, fun H locs rl h1 h2 hP hS hl hL => lv_if_ne C.1 C.2.1 hd ht (fun _ => g.2 H locs rl h1 h2 hP hS hl hL) (fun h9 => absurd h9 hx)⟩
  · dsimp only at h
    split at h
    · rename_i hx
      have g := zs_jmp hJ h
      exact ⟨g.1, fun H locs rl h1 h2 hP hS hl hL => lv_if_lt C.1 C.2.1 hd ht (fun _ => g.2 H locs rl h1 h2 hP hS hl hL) (fun h9 => absurd hx h9)⟩
    · rename_i hx
      have g := hk _ _ _ h
      exact ⟨g.1, fun H locs rl h1 h2 hP hS hl hL => lv_if_lt C.1 C.2.1 hd ht (fun h9 => absurd h9 hx) (fun _ => g.2 H locs rl h1 h2 hP hS hl hL)⟩
  · dsimp only at h
    split at h
    · rename_i hx
      have g := zs_jmp hJ h
      exact ⟨g.1, fun H locs rl h1 h2 hP hS hl hL => lv_if_ge C.1 C.2.1 hd ht (fun _ => g.2 H locs rl h1 h2 hP hS hl hL) (fun h9 => absurd hx h9)⟩
    · rename_i hx
      have g := hk _ _ _ h
      exact ⟨g.1, fun H locs rl h1 h2 hP hS hl hL => lv_if_ge C.1 C.2.1 hd ht (fun h9 => absurd h9 hx) (fun _ => g.2 H locs rl h1 h2 hP hS hl hL)⟩
  · dsimp only at h
    split at h
    · rename_i hx
      have g := zs_jmp hJ h
      exact ⟨g.1, fun H locs rl h1 h2 hP hS hl hL => lv_if_gt C.1 C.2.1 hd ht (fun _ => g.2 H locs rl h1 h2 hP hS hl hL) (fun h9 => absurd hx h9)⟩
    · rename_i hx
      have g := hk _ _ _ h
      exact ⟨g.1, fun H locs rl h1 h2 hP hS hl hL => lv_if_gt C.1 C.2.1 hd ht (fun h9 => absurd h9 hx) (fun _ => g.2 H locs rl h1 h2 hP hS hl hL)⟩
  · dsimp only at h
    split at h
    · rename_i hx
      have g := zs_jmp hJ h
      exact ⟨g.1, fun H locs rl h1 h2 hP hS hl hL => lv_if_le C.1 C.2.1 hd ht (fun _ => g.2 H locs rl h1 h2 hP hS hl hL) (fun h9 => absurd hx h9)⟩
    · rename_i hx
      have g := hk _ _ _ h
      exact ⟨g.1, fun H locs rl h1 h2 hP hS hl hL => lv_if_le C.1 C.2.1 hd ht (fun h9 => absurd h9 hx) (fun _ => g.2 H locs rl h1 h2 hP hS hl hL)⟩
theorem zs_icmp (C : zCx X s0 ov cA D n0 z0 res m p R s mid args meth c) {K : zv_C → Option zv_R} (hJ : ∀ l9 ls st μ, K (m, l9, ls, st, μ) = some res → zW X s0 ov cA D n0 z0 res m p l e R s mid args below meth c Q l9 ls st μ) {b9 : ClassFile.Cond} {off : Int} {l9 : Nat} {x y : Int32} (hd : decode (zv_mb m) pc = .ok (.if_icmp b9 off, 3)) (ht : (pc : Int) + off = (l9 : Int)) (h : zv_if b9 x y (K (zv_jmp m l9 ls st μ)) (k ls st μ) = some res) (hk : ∀ ls st μ, k ls st μ = some res → zW X s0 ov cA D n0 z0 res m p l e R s mid args below meth c Q (pc + 3) ls st μ) : zW X s0 ov cA D n0 z0 res m p l e R s mid args below meth c Q pc ls (.int y :: .int x :: st) μ := by
  unfold zv_if at h
  cases b9
  · dsimp only at h
    split at h
    · rename_i hx
      have g := zs_jmp hJ h
      exact ⟨g.1, fun H locs rl h1 h2 hP hS hl hL => lv_icmp_eq C.1 C.2.1 hd ht (fun _ => g.2 H locs rl h1 h2 hP hS hl hL) (fun h9 => absurd hx h9)⟩
    · rename_i hx
      have g := hk _ _ _ h
      exact ⟨g.1, fun H locs rl h1 h2 hP hS hl hL => lv_icmp_eq C.1 C.2.1 hd ht (fun h9 => absurd h9 hx) (fun _ => g.2 H locs rl h1 h2 hP hS hl hL)⟩
  · dsimp only at h
    split at h
    · rename_i hx
      have g := hk _ _ _ h
      exact ⟨g.1, fun H locs rl h1 h2 hP hS hl hL => lv_icmp_ne C.1 C.2.1 hd ht (fun h9 => absurd hx h9) (fun _ => g.2 H locs rl h1 h2 hP hS hl hL)⟩
    · rename_i hx
      have g := zs_jmp hJ h
      exact ⟨g.1, fun H locs rl h1 h2 hP hS hl hL => lv_icmp_ne C.1 C.2.1 hd ht (fun _ => g.2 H locs rl h1 h2 hP hS hl hL) (fun h9 => absurd h9 hx)⟩
  · dsimp only at h
    split at h
    · rename_i hx
      have g := zs_jmp hJ h
      exact ⟨g.1, fun H locs rl h1 h2 hP hS hl hL => lv_icmp_lt C.1 C.2.1 hd ht (fun _ => g.2 H locs rl h1 h2 hP hS hl hL) (fun h9 => absurd hx h9)⟩
    · rename_i hx
      have g := hk _ _ _ h
      exact ⟨g.1, fun H locs rl h1 h2 hP hS hl hL => lv_icmp_lt C.1 C.2.1 hd ht (fun h9 => absurd h9 hx) (fun _ => g.2 H locs rl h1 h2 hP hS hl hL)⟩
  · dsimp only at h
    split at h
    · rename_i hx
      have g := zs_jmp hJ h
      exact ⟨g.1, fun H locs rl h1 h2 hP hS hl hL => lv_icmp_ge C.1 C.2.1 hd ht (fun _ => g.2 H locs rl h1 h2 hP hS hl hL) (fun h9 => absurd hx h9)⟩
    · rename_i hx
      have g := hk _ _ _ h
      exact ⟨g.1, fun H locs rl h1 h2 hP hS hl hL => lv_icmp_ge C.1 C.2.1 hd ht (fun h9 => absurd h9 hx) (fun _ => g.2 H locs rl h1 h2 hP hS hl hL)⟩
  · dsimp only at h
    split at h
    · rename_i hx
      have g := zs_jmp hJ h
      exact ⟨g.1, fun H locs rl h1 h2 hP hS hl hL => lv_icmp_gt C.1 C.2.1 hd ht (fun _ => g.2 H locs rl h1 h2 hP hS hl hL) (fun h9 => absurd hx h9)⟩
    · rename_i hx
      have g := hk _ _ _ h
      exact ⟨g.1, fun H locs rl h1 h2 hP hS hl hL => lv_icmp_gt C.1 C.2.1 hd ht (fun h9 => absurd h9 hx) (fun _ => g.2 H locs rl h1 h2 hP hS hl hL)⟩
  · dsimp only at h
    split at h
    · rename_i hx
      have g := zs_jmp hJ h
      exact ⟨g.1, fun H locs rl h1 h2 hP hS hl hL => lv_icmp_le C.1 C.2.1 hd ht (fun _ => g.2 H locs rl h1 h2 hP hS hl hL) (fun h9 => absurd hx h9)⟩
    · rename_i hx
      have g := hk _ _ _ h
      exact ⟨g.1, fun H locs rl h1 h2 hP hS hl hL => lv_icmp_le C.1 C.2.1 hd ht (fun h9 => absurd h9 hx) (fun _ => g.2 H locs rl h1 h2 hP hS hl hL)⟩
theorem zt_cl : Cond.methodLink "GuessedPlace$State" 25 ⟨"[I", "clone", "()Ljava/lang/Object;"⟩ ∈ zv_gw ∧ Cond.sameMethod "[I" "java/lang/Object" "clone" "()Ljava/lang/Object;" ∈ zv_gw ∧ Cond.native ⟨"java/lang/Object", "clone", "()Ljava/lang/Object;"⟩ ∈ zv_gw ∧ Cond.instanceMethod ⟨"java/lang/Object", "clone", "()Ljava/lang/Object;"⟩ ∈ zv_gw ∧ Cond.selects "[I" ⟨"[I", "clone", "()Ljava/lang/Object;"⟩ ⟨"java/lang/Object", "clone", "()Ljava/lang/Object;"⟩ ∈ zv_gw ∧ Cond.castable "[I" "java/lang/Cloneable" ∈ zv_nw := by
  refine ⟨?_, ?_, ?_, ?_, ?_, ?_⟩ <;> decide +kernel
theorem zs_clone (C : zCx X s0 ov cA D n0 z0 res m p R s mid args meth c) (hd : decode (zv_mb m) pc = .ok (.invokevirtual 25, 3)) (hw : zow m = 9 ∧ 1 ≤ (zv_mi m).2.2.2.1 ∧ 22 ≤ (zv_mi m).2.2.2.2.1) (h : zv_op X (.invokevirtual 25) d ls st μ k = some res) (hk : ∀ ls st μ, k ls st μ = some res → zW X s0 ov cA D n0 z0 res m p l e R s mid args below meth c Q (pc + 3) ls st μ) : zW X s0 ov cA D n0 z0 res m p l e R s mid args below meth c Q pc ls st μ := by
  unfold zv_op at h
  dsimp only at h
  split at h
  · rename_i st
    split at h
    · cases h
    · rename_i hq
      have g := hk _ _ _ h
      have el : (zv_wA (zv_mk μ (.inl (0, 8))) μ.1.length (zv_old X 1).2).1 = (zv_mk μ (.inl (0, 8))).1 := rfl
      refine ⟨⟨Nat.le_trans (by rw [el, zmk_len]; omega) g.1.1, Nat.le_trans (by rw [el, zmk_sl]; omega) g.1.2⟩, fun H locs rl h1 h2 hP hS hl hL => ?_⟩
      obtain ⟨t, cell, e1, e2, e3, e4, e5, e6, e7, e8⟩ := C.2.2.2.2.2.2.2.2.2.2.2.1.2.2.2.2.2.2.2.2
      have hc1 : μ.1.length - n0 + 1 ≤ R.cells := by
        have a1 := g.1.1
        have a2 := C.2.2.2.2.2.2.2.2.2.2.2.2.2.1
        rw [el, zmk_len] at a1
        omega
      have hs1 : zsl μ.1 - z0 + cell.slots.size ≤ R.slots := by
        have a1 := g.1.2
        have a2 := C.2.2.2.2.2.2.2.2.2.2.2.2.2.2.1
        rw [el, zmk_sl] at a1
        have a3 : zsz (.inl (0, 8)) = 8 := rfl
        rw [e7]
        omega
      have hHt : H[t]? = some cell := by rw [hS.2.1 t (Array.getElem?_eq_some_iff.mp e3).1 e2]; exact e3
      have ecls : cell.cls = cA 0 := Option.some.inj (e6.symm.trans (va_nm_int (C.2.2.2.2.2.2.2.2.2.2.1.2 0 _ rfl).2))
      have hcell : ({ cls := cell.cls, slots := cell.slots } : Cell) = vp_cell (cA 0) (8, .inl (zv_old X 1).2) := by
        rw [ecls, vp_cell_i]
        have hsl : cell.slots = (arrV (cA 0) 8 (fun j => .int ((zv_old X 1).2 j))).slots := by
          apply Array.ext_getElem?
          intro i
          by_cases hi : i < 8
          · rw [e8 i hi, arrV_read _ _ hi]
          · rw [Array.getElem?_eq_none (by omega), Array.getElem?_eq_none (by rw [arrV_size]; omega)]
        rw [hsl]
        rfl
      have eown : zv_cn (zv_mi m).2.2.1 = "GuessedPlace$State" := by
        have e9 : (zv_mi m).2.2.1 = 9 := hw.1
        rw [e9]
        rfl
      have hown : s.vm.findClass "GuessedPlace$State" = some mid.cls := by rw [← eown]; exact C.2.2.2.1
      obtain ⟨c0, t0', f1, f2, f3⟩ := Cond.castable_spec (va_Nw.use (A := args) rfl (C.2.2.2.2.2.2.2.2.2.2.2.1.2.2.2.2.1 _ zt_cl.2.2.2.2.2))
      have ec : cell.cls = c0 := Option.some.inj (e6.symm.trans f1)
      have ert : zc s0 ov (.retAddr 1) = .ref t := e1
      rw [List.map_cons, ert]
      intro T hT X9
      have hsz : H.size = s0 + μ.1.length := by
        have := X9.heapSize
        rw [hT, C.2.2.2.2.2.2.2.2.2.2.2.2.1] at this
        exact zHsz hP hS (by rw [C.2.2.2.2.2.2.2.2.2.2.2.2.1]; exact Nat.le_add_right _ _) (by omega)
      obtain ⟨-, kS, hkS, compS, hkindS⟩ := (C.2.2.2.2.2.2.2.2.2.2.1.2 0 _ rfl).1 0 (fun _ => .null)
      have hkS : s.vm.classes[cA 0]? = some kS := hkS
      obtain ⟨kT, hkT, heT⟩ := X9.warmed.alike.2.2 _ _ hkS
      have hkindT : kT.kind = .array compS .int := by rw [heT]; exact hkindS
      obtain ⟨vm', X', step⟩ := X9.cloneArray C.1 hown (C.2.2.2.2.1 _ zt_cl.1) (C.2.2.2.2.1 _ zt_cl.2.1) (C.2.2.2.2.1 _ zt_cl.2.2.1) (C.2.2.2.2.1 _ zt_cl.2.2.2.1) (C.2.2.2.2.1 _ zt_cl.2.2.2.2.1) (a := t) (cell := cell) (by rw [hT]; exact hHt) (fun k9 h9 => by rw [h9] at e4; cases e4) e5 e6 f2 (by rw [ec]; exact f3)
        (fun i v hv => by
          have hi : i < 8 := by rw [← e7]; exact (Array.getElem?_eq_some_iff.mp hv).1
          rw [e8 i hi] at hv
          cases hv
          rw [ecls]
          simp [State.fitsSlot, State.slotType?, hkT, hkindT, fits])
        (g := F0 mid pc rl (.ref t :: st.map (zc s0 ov))) rfl (by rw [C.2.2.1]; exact hl.1) rfl (by rw [C.2.1]; exact hd) (Nat.le_trans hw.2.1 C.2.2.2.2.2.2.2.2.1) (by
          show 2 * 0 + _ + 14 ≤ R.locals
          rw [zc_cats C.2.2.2.2.2.2.2.2.2.2.2.2.2.2.2.1]
          have := C.2.2.2.2.2.2.2.2.2.1
          have := hw.2.2
          omega) hc1 hs1 (hloader := by rw [ecls]; exact Vm.clonesLoader_of_array hkS hkindS)
      rw [hcell] at X' step
      have hws : zws s0 cA (zv_wA (zv_mk μ (.inl (0, 8))) μ.1.length (zv_old X 1).2) = zws s0 cA μ ++ [(s0 + μ.1.length, .inl (cA 0, 8, .inl (zv_old X 1).2))] := by
        have e9 : zw s0 cA (zv_wA (zv_mk μ (.inl (0, 8))) μ.1.length (zv_old X 1).2) μ.1.length = .inl (cA 0, 8, .inl (zv_old X 1).2) := by
          rw [zw_ar (μ := zv_wA (zv_mk μ (.inl (0, 8))) μ.1.length (zv_old X 1).2) (t := 0) (n := 8) (by exact zmk_at)]
          simp [zdt, zv_wA, va_up]
        rw [zws_push (μ := μ) (sh := .inl (0, 8)) rfl (fun j hj => ?_), e9]
        · have hj2 : j ≠ μ.1.length := Nat.ne_of_lt hj
          simp [zv_wA, zv_mk, va_up, hj2]
      have z1 : (H.push (vp_cell (cA 0) (8, .inl (zv_old X 1).2))).size = H.size + 1 := Array.size_push _
      have o1 : ∀ q : Nat, q < H.size → (H.push (vp_cell (cA 0) (8, .inl (zv_old X 1).2)))[q]? = H[q]? := fun q hq => by rw [Array.getElem?_push, if_neg (Nat.ne_of_lt hq)]
      have hP1 : va_P D vwCl (zws s0 cA (zv_wA (zv_mk μ (.inl (0, 8))) μ.1.length (zv_old X 1).2)) (H.push (vp_cell (cA 0) (8, .inl (zv_old X 1).2))) := by
        rw [hws]
        refine (hP.kept (fun k9 y hy => o1 y.1 ((hP k9 y hy).lt))).app (fun k9 y hy => ?_)
        have hz : k9 < 1 := (List.getElem?_eq_some_iff.mp hy).1
        rw [show k9 = 0 by omega] at hy
        cases hy
        show (H.push _)[s0 + μ.1.length]? = some (vp_cell _ _)
        rw [← hsz, Array.getElem?_push_size]
      have gg := W.cs (cells := μ.1.length - n0 + 1) (slots := zsl μ.1 - z0 + cell.slots.size) (by rw [el, zmk_len]; omega) (by rw [el, zmk_sl, e7]; show _ = zsl μ.1 + 8 - z0; omega) (g.2 (H.push (vp_cell (cA 0) (8, .inl (zv_old X 1).2))) locs rl (by rw [el, zmk_len]; omega) (by rw [el, zmk_sl]; omega) hP1 ⟨Nat.le_trans hS.1 (by omega), fun q a1 a2 => (o1 q (Nat.lt_of_lt_of_le a1 hS.1)).trans (hS.2.1 q a1 a2), hS.2.2⟩ hl hL)
      obtain ⟨t2, b1, b2⟩ := gg ((T.setVm vm').pushCell (vp_cell (cA 0) (8, .inl (zv_old X 1).2))) (by rw [← hT]; rfl) X'
      refine ⟨t2, step t2 ?_, b2⟩
      rw [hT, hsz]
      exact b1
  · cases h
end ZMAIN
end
section
section ZMAIN2
variable {X : zv_X} {s0 : Nat} {ov : Nat → Value} {cA : Nat → ClassId} {D : va_G} {n0 z0 : Nat} {res : zv_R} {m : Nat} {p : Program} {l : Launch} {e : Env} {R : Room} {s : State} {mid : MethodId} {args : Array Value} {below : List Frame} {meth : Method} {c : Code} {Q : State → Prop}
variable {pc : Nat} {d : List Nat} {ls : zv_L} {st : List Value} {μ : zv_M} {k : zv_L → List Value → zv_M → Option zv_R}
theorem zrc3 {t : Option FieldType} (h : zrc 3 t = true) : ∃ n, t = some (.object n) := by
  cases t with
  | none => cases h
  | some ty => cases ty <;> first | exact ⟨_, rfl⟩ | cases h
/-- which answer, where -/
def zrd (m pc : Nat) (v : Option Value) : Prop := match v with
  | none => decode (zv_mb m) pc = .ok (.return_, 1) ∧ zv_mr m = none
  | some (.int x) => decode (zv_mb m) pc = .ok (.ireturn, 1) ∧ ∃ ty, zv_mr m = some ty ∧ narrow ty (.int x) = .int x
  | some (.long _) => decode (zv_mb m) pc = .ok (.lreturn, 1) ∧ zv_mr m = some .long
  | some (.retAddr i) => decode (zv_mb m) pc = .ok (.areturn, 1) ∧ i ≠ 90 ∧ ∃ n, zv_mr m = some (.object n)
  | _ => False
def zRet (s0 : Nat) (ov : Nat → Value) (cA : Nat → ClassId) (D : va_G) (n0 z0 : Nat) (res : zv_R) (m : Nat) (p : Program) (l : Launch) (e : Env) (R : Room) (s : State) (mid : MethodId) (args : Array Value) (below : List Frame) (meth : Method) (c : Code) (Q : State → Prop) : Prop :=
  ∀ (pc : Nat) (H : Heap) (locs : List Loc) (rl : Array Slot), va_P D vwCl (zws s0 cA res.2) H → va_S (fun q => s0 ≤ q) s.heap H locs → n0 ≤ res.2.1.length → z0 ≤ zsl res.2.1 → zrd m pc res.1 → W p l e R s mid args below meth c H locs (res.2.1.length - n0) (zsl res.2.1 - z0) Q (F0 mid pc rl (res.1.toList.map (zc s0 ov)))
theorem zs_ret (hR : zRet s0 ov cA D n0 z0 res m p l e R s mid args below meth c Q) {v : Option Value} (he : res = (v, μ)) (hd : zrd m pc v) : zW X s0 ov cA D n0 z0 res m p l e R s mid args below meth c Q pc ls v.toList μ := by
  subst he
  exact ⟨⟨Nat.le_refl _, Nat.le_refl _⟩, fun H locs rl h1 h2 hP hS hl hL => hR pc H locs rl hP hS h1 h2 hd⟩
theorem zs_one (C : zCx X s0 ov cA D n0 z0 res m p R s mid args meth c) (hrc : zrc (zv_mi m).2.1 (zv_mr m) = true) {K : zv_C → Option zv_R} (hJ : ∀ l9 ls st μ, K (m, l9, ls, st, μ) = some res → zW X s0 ov cA D n0 z0 res m p l e R s mid args below meth c Q l9 ls st μ) (hCall : ∀ (b : Nat) (as : List Value) (μ : zv_M) (r : zv_R), K (b, 0, zv_ent b as, [], μ) = some r → b < 209 → (zv_flt as).length ≤ (zv_mi b).1 → (μ.1.length ≤ r.2.1.length ∧ zsl μ.1 ≤ zsl r.2.1) ∧ zMet l X s0 ov cA D b as μ r) (hR : zRet s0 ov cA D n0 z0 res m p l e R s mid args below meth c Q) (hM : ∀ (pc idx dm : Nat) (d : List Nat) (ls : zv_L) (st : List Value) (μ : zv_M) (k : zv_L → List Value → zv_M → Option zv_R), zchk m (pc, .multianewarray idx dm, d) = true → zv_op X (.multianewarray idx dm) d ls st μ k = some res → (∀ ls st μ, k ls st μ = some res → zW X s0 ov cA D n0 z0 res m p l e R s mid args below meth c Q (pc + 4) ls st μ) → zW X s0 ov cA D n0 z0 res m p l e R s mid args below meth c Q pc ls st μ) {i : Instr} (hc : zchk m (pc, i, d) = true) (h : zv_one X m K (pc, i, d) ls st μ k = some res) (hk : ∀ ls st μ, k ls st μ = some res → zW X s0 ov cA D n0 z0 res m p l e R s mid args below meth c Q (pc + zlen i) ls st μ) : zW X s0 ov cA D n0 z0 res m p l e R s mid args below meth c Q pc ls st μ := by
  unfold zv_one at h
  dsimp only at h
  split at h
  · split at h
    · rename_i l9
      have e : [l9] = [pc] := of_decide_eq_true hc
      have e : l9 = pc := by simpa using e
      subst e
      exact zs_jmp hJ h
    · cases h
  · rename_i off
    obtain ⟨a1, a2⟩ := zand hc
    split at h
    · rename_i l9
      have g := zs_jmp hJ h
      exact ⟨g.1, fun H locs rl h1 h2 hP hS hl hL => lv_goto C.1 C.2.1 (zdec_ok a1) (of_decide_eq_true a2) (g.2 H locs rl h1 h2 hP hS hl hL)⟩
    · cases h
  · rename_i b9 off
    obtain ⟨a1, a2⟩ := zand hc
    split at h
    · exact zs_ifc C hJ (zdec_ok a1) (of_decide_eq_true a2) h hk
    · cases h
  · rename_i b9 off
    obtain ⟨a1, a2⟩ := zand hc
    split at h
    · exact zs_icmp C hJ (zdec_ok a1) (of_decide_eq_true a2) h hk
    · cases h
  · split at h
    · have g := hk _ _ _ h
      exact ⟨g.1, fun H locs rl h1 h2 hP hS hl hL => lv_ifnull C.1 C.2.1 (zdec_ok hc) (g.2 H locs rl h1 h2 hP hS hl hL)⟩
    · cases h
  · rename_i df lo hi offs
    split at h
    · rename_i n9 l0 tg x st
      obtain ⟨a1, a3⟩ := zand hc
      obtain ⟨a1, a2⟩ := zand a1
      have a2 := of_decide_eq_true a2
      have a3 := of_decide_eq_true a3
      split at h
      · rename_i hx
        have g := zs_jmp hJ h
        exact ⟨g.1, fun H locs rl h1 h2 hP hS hl hL => lv_tableOut C.1 C.2.1 (zdec_ok a1) hx a2 (g.2 H locs rl h1 h2 hP hS hl hL)⟩
      · rename_i hx
        split at h
        · rename_i l9 hl9
          have g := zs_jmp hJ h
          have e1 : (offs.toList.map (fun o => (pc : Int) + o))[(x.toInt - lo).toNat]? = some (l9 : Int) := by
            rw [← a3, List.getElem?_map, hl9]
            rfl
          rw [List.getElem?_map] at e1
          obtain ⟨off, ho, he⟩ := Option.map_eq_some_iff.mp e1
          rw [Array.getElem?_toList] at ho
          exact ⟨g.1, fun H locs rl h1 h2 hP hS hl hL => lv_tableIn C.1 C.2.1 (zdec_ok a1) (fun q => hx (Or.inl q)) (fun q => hx (Or.inr q)) ho he (g.2 H locs rl h1 h2 hP hS hl hL)⟩
        · cases h
    · cases h
  · split at h
    · rename_i v
      unfold zv_rt at h
      have hd : decode (zv_mb m) pc = .ok (.ireturn, 1) := zdec_ok hc
      unfold zrc at hrc
      split at h
      · rename_i e9
        rw [e9] at hrc
        have e8 := of_decide_eq_true hrc
        exact zs_ret (v := some (.int v)) hR (Option.some.inj h).symm ⟨hd, _, e8, rfl⟩
      · rename_i e9
        rw [e9] at hrc
        have e8 := of_decide_eq_true hrc
        split at h
        · rename_i hv
          exact zs_ret (v := some (.int v)) hR (Option.some.inj h).symm ⟨hd, _, e8, by rcases hv with rfl | rfl <;> rfl⟩
        · cases h
      · rename_i e9
        rw [e9] at hrc
        have e8 := of_decide_eq_true hrc
        split at h
        · rename_i hv
          exact zs_ret (v := some (.int v)) hR (Option.some.inj h).symm ⟨hd, _, e8, congrArg Value.int hv⟩
        · cases h
      · rename_i e9
        rw [e9] at hrc
        have e8 := of_decide_eq_true hrc
        split at h
        · rename_i hv
          exact zs_ret (v := some (.int v)) hR (Option.some.inj h).symm ⟨hd, _, e8, congrArg Value.int hv⟩
        · cases h
      · cases h
    · cases h
  · split at h
    · rename_i v
      split at h
      · rename_i e9
        rw [e9] at hrc
        exact zs_ret (v := some (.long v)) hR (Option.some.inj h).symm ⟨zdec_ok hc, of_decide_eq_true hrc⟩
      · cases h
    · cases h
  · split at h
    · rename_i v
      split at h
      · rename_i e9
        rw [e9.1] at hrc
        exact zs_ret (v := some (.retAddr v)) hR (Option.some.inj h).symm ⟨zdec_ok hc, e9.2, zrc3 hrc⟩
      · cases h
    · cases h
  · split at h
    · split at h
      · rename_i e9
        rw [e9] at hrc
        exact zs_ret (v := none) hR (Option.some.inj h).symm ⟨zdec_ok hc, of_decide_eq_true hrc⟩
      · cases h
    · cases h
  · rename_i idx
    obtain ⟨a1, a2⟩ := zand hc
    split at h
    · rename_i b n rk
      have a3 : zmc m idx [b, n, rk] = true := by
        dsimp only at a2
        split at a2 <;> first | exact a2 | simp_all
      exact zs_cS C hCall (zdec_ok a1) a3 h hk
    · rename_i hd3
      dsimp only at a2
      split at a2
      · simp only [Bool.and_eq_true, decide_eq_true_eq] at a2
        obtain ⟨⟨a2, a3⟩, a4⟩ := a2
        refine zs_arraycopy C (zdec_ok a1) ⟨?_, zt_sy.1, zt_sy.2.1, zt_sy.2.2.1, a3, a4⟩ h hk
        obtain ⟨q, hq, e⟩ := List.any_eq_true.mp a2
        simp only [Bool.and_eq_true, beq_iff_eq] at e
        obtain ⟨e1, e2⟩ := e
        have h5 := List.all_eq_true.mp zt_a_ok q hq
        rw [e1, e2] at h5
        exact zat_in h5 rfl
      · exfalso
        unfold zmc at a2
        split at a2
        · exact hd3 _ _ _ rfl
        · cases a2
  · rename_i idx
    obtain ⟨a1, a2⟩ := zand hc
    split at h
    · rename_i b n rk
      have a3 : zmc m idx [b, n, rk] = true := by
        dsimp only at a2
        split at a2 <;> first | exact a2 | simp_all
      exact zs_cV C hCall (zdec_ok a1) a3 h hk
    · rename_i hd3
      dsimp only at a2
      split at a2
      · have a3 := of_decide_eq_true a2
        obtain ⟨⟨a3, a5, a6⟩, a4⟩ := a3
        subst a4
        exact zs_clone C (zdec_ok a1) ⟨a3, a5, a6⟩ h hk
      · exfalso
        unfold zmc at a2
        split at a2
        · exact hd3 _ _ _ rfl
        · cases a2
  · rename_i idx
    obtain ⟨a1, a2⟩ := zand hc
    split at h
    · rename_i b n rk
      have a3 : zmc m idx [b, n, rk] = true := by
        dsimp only at a2
        split at a2 <;> first | exact a2 | simp_all
      exact zs_cI C hCall (zdec_ok a1) a3 h hk
    · rename_i hd3
      dsimp only at a2
      split at a2
      · simp only [Bool.and_eq_true, decide_eq_true_eq] at a2
        obtain ⟨⟨a2, a3⟩, a4⟩ := a2
        refine zs_objinit C (zdec_ok a1) ⟨?_, zt_sy.2.2.2.1, zt_sy.2.2.2.2, a3, a4⟩ h hk
        obtain ⟨q, hq, e⟩ := List.any_eq_true.mp a2
        simp only [Bool.and_eq_true, beq_iff_eq] at e
        obtain ⟨e1, e2⟩ := e
        have h5 := List.all_eq_true.mp zt_o_ok q hq
        rw [e1, e2] at h5
        exact zat_in h5 rfl
      · exfalso
        unfold zmc at a2
        split at a2
        · exact hd3 _ _ _ rfl
        · cases a2
  · rename_i n1 n2 n3 n4 n5 n6 n7 n8 n9 n10 n11 n12 n13
    exact zs_ops C hc h (fun n e => n11 n e) (fun n e => n12 n e) (fun n e => n13 n e) (fun idx dm e => by subst e; exact hM _ _ _ _ _ _ _ _ hc h hk) hk
theorem zs_exe (C : zCx X s0 ov cA D n0 z0 res m p R s mid args meth c) (hrc : zrc (zv_mi m).2.1 (zv_mr m) = true) {K : zv_C → Option zv_R} (hJ : ∀ l9 ls st μ, K (m, l9, ls, st, μ) = some res → zW X s0 ov cA D n0 z0 res m p l e R s mid args below meth c Q l9 ls st μ) (hCall : ∀ (b : Nat) (as : List Value) (μ : zv_M) (r : zv_R), K (b, 0, zv_ent b as, [], μ) = some r → b < 209 → (zv_flt as).length ≤ (zv_mi b).1 → (μ.1.length ≤ r.2.1.length ∧ zsl μ.1 ≤ zsl r.2.1) ∧ zMet l X s0 ov cA D b as μ r) (hR : zRet s0 ov cA D n0 z0 res m p l e R s mid args below meth c Q) (hM : ∀ (pc idx dm : Nat) (d : List Nat) (ls : zv_L) (st : List Value) (μ : zv_M) (k : zv_L → List Value → zv_M → Option zv_R), zchk m (pc, .multianewarray idx dm, d) = true → zv_op X (.multianewarray idx dm) d ls st μ k = some res → (∀ ls st μ, k ls st μ = some res → zW X s0 ov cA D n0 z0 res m p l e R s mid args below meth c Q (pc + 4) ls st μ) → zW X s0 ov cA D n0 z0 res m p l e R s mid args below meth c Q pc ls st μ) : ∀ (is : List zv_I) (pc : Nat) (ls : zv_L) (st : List Value) (μ : zv_M), zchkl m is = true → (∀ q r, is = q :: r → q.1 = pc) → zv_exe X m K is ls st μ = some res → zW X s0 ov cA D n0 z0 res m p l e R s mid args below meth c Q pc ls st μ
  | [], _, _, _, _, _, _, h => by cases h
  | (pc0, i, d) :: r, pc, ls, st, μ, hc, hp, h => by
    have e : pc0 = pc := hp _ _ rfl
    subst e
    have h : zv_one X m K (pc0, i, d) ls st μ (fun ls st μ => zv_exe X m K r ls st μ) = some res := h
    unfold zchkl at hc
    obtain ⟨a1, a3⟩ := zand hc
    obtain ⟨a1, a2⟩ := zand a1
    refine zs_one C hrc hJ hCall hR hM a1 h (fun ls st μ h9 => zs_exe C hrc hJ hCall hR hM r _ ls st μ a3 (fun q r' e => ?_) h9)
    subst e
    exact of_decide_eq_true a2
end ZMAIN2
end
section
/-! every block of every method is checked by the kernel -/
theorem zb_0_0 : ((zv_b0.drop 0).take 1).all (zchkb 0) = true := by decide +kernel
theorem zb_0 : zv_b0.all (zchkb 0) = true := by
  have e : zv_b0 = (zv_b0.drop 0).take 1 := rfl
  rw [e]
  simp only [List.all_append, zb_0_0, Bool.and_self]
theorem zb_1_0 : ((zv_b1.drop 0).take 1).all (zchkb 1) = true := by decide +kernel
theorem zb_1 : zv_b1.all (zchkb 1) = true := by
  have e : zv_b1 = (zv_b1.drop 0).take 1 := rfl
  rw [e]
  simp only [List.all_append, zb_1_0, Bool.and_self]
theorem zb_2_0 : ((zv_b2.drop 0).take 1).all (zchkb 2) = true := by decide +kernel
theorem zb_2 : zv_b2.all (zchkb 2) = true := by
  have e : zv_b2 = (zv_b2.drop 0).take 1 := rfl
  rw [e]
  simp only [List.all_append, zb_2_0, Bool.and_self]
theorem zb_3_0 : ((zv_b3.drop 0).take 1).all (zchkb 3) = true := by decide +kernel
theorem zb_3_1 : ((zv_b3.drop 1).take 1).all (zchkb 3) = true := by decide +kernel
theorem zb_3 : zv_b3.all (zchkb 3) = true := by
  have e : zv_b3 = (zv_b3.drop 0).take 1 ++ ((zv_b3.drop 1).take 1) := rfl
  rw [e]
  simp only [List.all_append, zb_3_0, zb_3_1, Bool.and_self]
theorem zb_4_0 : ((zv_b4.drop 0).take 3).all (zchkb 4) = true := by decide +kernel
theorem zb_4_3 : ((zv_b4.drop 3).take 1).all (zchkb 4) = true := by decide +kernel
theorem zb_4 : zv_b4.all (zchkb 4) = true := by
  have e : zv_b4 = (zv_b4.drop 0).take 3 ++ ((zv_b4.drop 3).take 1) := rfl
  rw [e]
  simp only [List.all_append, zb_4_0, zb_4_3, Bool.and_self]
theorem zb_5_0 : ((zv_b5.drop 0).take 3).all (zchkb 5) = true := by decide +kernel
theorem zb_5 : zv_b5.all (zchkb 5) = true := by
  have e : zv_b5 = (zv_b5.drop 0).take 3 := rfl
  rw [e]
  simp only [List.all_append, zb_5_0, Bool.and_self]
theorem zb_6_0 : ((zv_b6.drop 0).take 3).all (zchkb 6) = true := by decide +kernel
theorem zb_6_3 : ((zv_b6.drop 3).take 1).all (zchkb 6) = true := by decide +kernel
theorem zb_6_4 : ((zv_b6.drop 4).take 1).all (zchkb 6) = true := by decide +kernel
theorem zb_6 : zv_b6.all (zchkb 6) = true := by
  have e : zv_b6 = (zv_b6.drop 0).take 3 ++ ((zv_b6.drop 3).take 1 ++ ((zv_b6.drop 4).take 1)) := rfl
  rw [e]
  simp only [List.all_append, zb_6_0, zb_6_3, zb_6_4, Bool.and_self]
theorem zb_7_0 : ((zv_b7.drop 0).take 1).all (zchkb 7) = true := by decide +kernel
theorem zb_7_1 : ((zv_b7.drop 1).take 1).all (zchkb 7) = true := by decide +kernel
theorem zb_7_2 : ((zv_b7.drop 2).take 4).all (zchkb 7) = true := by decide +kernel
theorem zb_7 : zv_b7.all (zchkb 7) = true := by
  have e : zv_b7 = (zv_b7.drop 0).take 1 ++ ((zv_b7.drop 1).take 1 ++ ((zv_b7.drop 2).take 4)) := rfl
  rw [e]
  simp only [List.all_append, zb_7_0, zb_7_1, zb_7_2, Bool.and_self]
theorem zb_8_0 : ((zv_b8.drop 0).take 1).all (zchkb 8) = true := by decide +kernel
theorem zb_8 : zv_b8.all (zchkb 8) = true := by
  have e : zv_b8 = (zv_b8.drop 0).take 1 := rfl
  rw [e]
  simp only [List.all_append, zb_8_0, Bool.and_self]
theorem zb_9_0 : ((zv_b9.drop 0).take 2).all (zchkb 9) = true := by decide +kernel
theorem zb_9_2 : ((zv_b9.drop 2).take 3).all (zchkb 9) = true := by decide +kernel
theorem zb_9 : zv_b9.all (zchkb 9) = true := by
  have e : zv_b9 = (zv_b9.drop 0).take 2 ++ ((zv_b9.drop 2).take 3) := rfl
  rw [e]
  simp only [List.all_append, zb_9_0, zb_9_2, Bool.and_self]
theorem zb_10_0 : ((zv_b10.drop 0).take 3).all (zchkb 10) = true := by decide +kernel
theorem zb_10 : zv_b10.all (zchkb 10) = true := by
  have e : zv_b10 = (zv_b10.drop 0).take 3 := rfl
  rw [e]
  simp only [List.all_append, zb_10_0, Bool.and_self]
theorem zb_11_0 : ((zv_b11.drop 0).take 3).all (zchkb 11) = true := by decide +kernel
theorem zb_11 : zv_b11.all (zchkb 11) = true := by
  have e : zv_b11 = (zv_b11.drop 0).take 3 := rfl
  rw [e]
  simp only [List.all_append, zb_11_0, Bool.and_self]
theorem zb_12_0 : ((zv_b12.drop 0).take 2).all (zchkb 12) = true := by decide +kernel
theorem zb_12_2 : ((zv_b12.drop 2).take 1).all (zchkb 12) = true := by decide +kernel
theorem zb_12_3 : ((zv_b12.drop 3).take 2).all (zchkb 12) = true := by decide +kernel
theorem zb_12 : zv_b12.all (zchkb 12) = true := by
  have e : zv_b12 = (zv_b12.drop 0).take 2 ++ ((zv_b12.drop 2).take 1 ++ ((zv_b12.drop 3).take 2)) := rfl
  rw [e]
  simp only [List.all_append, zb_12_0, zb_12_2, zb_12_3, Bool.and_self]
theorem zb_13_0 : ((zv_b13.drop 0).take 1).all (zchkb 13) = true := by decide +kernel
theorem zb_13 : zv_b13.all (zchkb 13) = true := by
  have e : zv_b13 = (zv_b13.drop 0).take 1 := rfl
  rw [e]
  simp only [List.all_append, zb_13_0, Bool.and_self]
theorem zb_14_0 : ((zv_b14.drop 0).take 1).all (zchkb 14) = true := by decide +kernel
theorem zb_14_1 : ((zv_b14.drop 1).take 1).all (zchkb 14) = true := by decide +kernel
theorem zb_14_2 : ((zv_b14.drop 2).take 2).all (zchkb 14) = true := by decide +kernel
theorem zb_14 : zv_b14.all (zchkb 14) = true := by
  have e : zv_b14 = (zv_b14.drop 0).take 1 ++ ((zv_b14.drop 1).take 1 ++ ((zv_b14.drop 2).take 2)) := rfl
  rw [e]
  simp only [List.all_append, zb_14_0, zb_14_1, zb_14_2, Bool.and_self]
theorem zb_15_0 : ((zv_b15.drop 0).take 1).all (zchkb 15) = true := by decide +kernel
theorem zb_15 : zv_b15.all (zchkb 15) = true := by
  have e : zv_b15 = (zv_b15.drop 0).take 1 := rfl
  rw [e]
  simp only [List.all_append, zb_15_0, Bool.and_self]
theorem zb_16_0 : ((zv_b16.drop 0).take 3).all (zchkb 16) = true := by decide +kernel
theorem zb_16 : zv_b16.all (zchkb 16) = true := by
  have e : zv_b16 = (zv_b16.drop 0).take 3 := rfl
  rw [e]
  simp only [List.all_append, zb_16_0, Bool.and_self]
theorem zb_17_0 : ((zv_b17.drop 0).take 3).all (zchkb 17) = true := by decide +kernel
theorem zb_17_3 : ((zv_b17.drop 3).take 4).all (zchkb 17) = true := by decide +kernel
theorem zb_17 : zv_b17.all (zchkb 17) = true := by
  have e : zv_b17 = (zv_b17.drop 0).take 3 ++ ((zv_b17.drop 3).take 4) := rfl
  rw [e]
  simp only [List.all_append, zb_17_0, zb_17_3, Bool.and_self]
theorem zb_18_0 : ((zv_b18.drop 0).take 6).all (zchkb 18) = true := by decide +kernel
theorem zb_18_6 : ((zv_b18.drop 6).take 3).all (zchkb 18) = true := by decide +kernel
theorem zb_18_9 : ((zv_b18.drop 9).take 1).all (zchkb 18) = true := by decide +kernel
theorem zb_18_10 : ((zv_b18.drop 10).take 2).all (zchkb 18) = true := by decide +kernel
theorem zb_18 : zv_b18.all (zchkb 18) = true := by
  have e : zv_b18 = (zv_b18.drop 0).take 6 ++ ((zv_b18.drop 6).take 3 ++ ((zv_b18.drop 9).take 1 ++ ((zv_b18.drop 10).take 2))) := rfl
  rw [e]
  simp only [List.all_append, zb_18_0, zb_18_6, zb_18_9, zb_18_10, Bool.and_self]
theorem zb_19_0 : ((zv_b19.drop 0).take 1).all (zchkb 19) = true := by decide +kernel
theorem zb_19 : zv_b19.all (zchkb 19) = true := by
  have e : zv_b19 = (zv_b19.drop 0).take 1 := rfl
  rw [e]
  simp only [List.all_append, zb_19_0, Bool.and_self]
theorem zb_20_0 : ((zv_b20.drop 0).take 1).all (zchkb 20) = true := by decide +kernel
theorem zb_20 : zv_b20.all (zchkb 20) = true := by
  have e : zv_b20 = (zv_b20.drop 0).take 1 := rfl
  rw [e]
  simp only [List.all_append, zb_20_0, Bool.and_self]
theorem zb_21_0 : ((zv_b21.drop 0).take 1).all (zchkb 21) = true := by decide +kernel
theorem zb_21 : zv_b21.all (zchkb 21) = true := by
  have e : zv_b21 = (zv_b21.drop 0).take 1 := rfl
  rw [e]
  simp only [List.all_append, zb_21_0, Bool.and_self]
theorem zb_22_0 : ((zv_b22.drop 0).take 3).all (zchkb 22) = true := by decide +kernel
theorem zb_22 : zv_b22.all (zchkb 22) = true := by
  have e : zv_b22 = (zv_b22.drop 0).take 3 := rfl
  rw [e]
  simp only [List.all_append, zb_22_0, Bool.and_self]
theorem zb_23_0 : ((zv_b23.drop 0).take 3).all (zchkb 23) = true := by decide +kernel
theorem zb_23 : zv_b23.all (zchkb 23) = true := by
  have e : zv_b23 = (zv_b23.drop 0).take 3 := rfl
  rw [e]
  simp only [List.all_append, zb_23_0, Bool.and_self]
theorem zb_24_0 : ((zv_b24.drop 0).take 4).all (zchkb 24) = true := by decide +kernel
theorem zb_24 : zv_b24.all (zchkb 24) = true := by
  have e : zv_b24 = (zv_b24.drop 0).take 4 := rfl
  rw [e]
  simp only [List.all_append, zb_24_0, Bool.and_self]
theorem zb_25_0 : ((zv_b25.drop 0).take 2).all (zchkb 25) = true := by decide +kernel
theorem zb_25_2 : ((zv_b25.drop 2).take 2).all (zchkb 25) = true := by decide +kernel
theorem zb_25 : zv_b25.all (zchkb 25) = true := by
  have e : zv_b25 = (zv_b25.drop 0).take 2 ++ ((zv_b25.drop 2).take 2) := rfl
  rw [e]
  simp only [List.all_append, zb_25_0, zb_25_2, Bool.and_self]
theorem zb_26_0 : ((zv_b26.drop 0).take 1).all (zchkb 26) = true := by decide +kernel
theorem zb_26_1 : ((zv_b26.drop 1).take 1).all (zchkb 26) = true := by decide +kernel
theorem zb_26 : zv_b26.all (zchkb 26) = true := by
  have e : zv_b26 = (zv_b26.drop 0).take 1 ++ ((zv_b26.drop 1).take 1) := rfl
  rw [e]
  simp only [List.all_append, zb_26_0, zb_26_1, Bool.and_self]
theorem zb_27_0 : ((zv_b27.drop 0).take 1).all (zchkb 27) = true := by decide +kernel
theorem zb_27 : zv_b27.all (zchkb 27) = true := by
  have e : zv_b27 = (zv_b27.drop 0).take 1 := rfl
  rw [e]
  simp only [List.all_append, zb_27_0, Bool.and_self]
theorem zb_28_0 : ((zv_b28.drop 0).take 1).all (zchkb 28) = true := by decide +kernel
theorem zb_28 : zv_b28.all (zchkb 28) = true := by
  have e : zv_b28 = (zv_b28.drop 0).take 1 := rfl
  rw [e]
  simp only [List.all_append, zb_28_0, Bool.and_self]
theorem zb_29_0 : ((zv_b29.drop 0).take 1).all (zchkb 29) = true := by decide +kernel
theorem zb_29 : zv_b29.all (zchkb 29) = true := by
  have e : zv_b29 = (zv_b29.drop 0).take 1 := rfl
  rw [e]
  simp only [List.all_append, zb_29_0, Bool.and_self]
theorem zb_30_0 : ((zv_b30.drop 0).take 3).all (zchkb 30) = true := by decide +kernel
theorem zb_30 : zv_b30.all (zchkb 30) = true := by
  have e : zv_b30 = (zv_b30.drop 0).take 3 := rfl
  rw [e]
  simp only [List.all_append, zb_30_0, Bool.and_self]
theorem zb_31_0 : ((zv_b31.drop 0).take 1).all (zchkb 31) = true := by decide +kernel
theorem zb_31_1 : ((zv_b31.drop 1).take 1).all (zchkb 31) = true := by decide +kernel
theorem zb_31_2 : ((zv_b31.drop 2).take 1).all (zchkb 31) = true := by decide +kernel
theorem zb_31 : zv_b31.all (zchkb 31) = true := by
  have e : zv_b31 = (zv_b31.drop 0).take 1 ++ ((zv_b31.drop 1).take 1 ++ ((zv_b31.drop 2).take 1)) := rfl
  rw [e]
  simp only [List.all_append, zb_31_0, zb_31_1, zb_31_2, Bool.and_self]
theorem zb_32_0 : ((zv_b32.drop 0).take 1).all (zchkb 32) = true := by decide +kernel
theorem zb_32_1 : ((zv_b32.drop 1).take 3).all (zchkb 32) = true := by decide +kernel
theorem zb_32_4 : ((zv_b32.drop 4).take 1).all (zchkb 32) = true := by decide +kernel
theorem zb_32 : zv_b32.all (zchkb 32) = true := by
  have e : zv_b32 = (zv_b32.drop 0).take 1 ++ ((zv_b32.drop 1).take 3 ++ ((zv_b32.drop 4).take 1)) := rfl
  rw [e]
  simp only [List.all_append, zb_32_0, zb_32_1, zb_32_4, Bool.and_self]
theorem zb_33_0 : ((zv_b33.drop 0).take 3).all (zchkb 33) = true := by decide +kernel
theorem zb_33 : zv_b33.all (zchkb 33) = true := by
  have e : zv_b33 = (zv_b33.drop 0).take 3 := rfl
  rw [e]
  simp only [List.all_append, zb_33_0, Bool.and_self]
theorem zb_34_0 : ((zv_b34.drop 0).take 3).all (zchkb 34) = true := by decide +kernel
theorem zb_34 : zv_b34.all (zchkb 34) = true := by
  have e : zv_b34 = (zv_b34.drop 0).take 3 := rfl
  rw [e]
  simp only [List.all_append, zb_34_0, Bool.and_self]
theorem zb_35_0 : ((zv_b35.drop 0).take 1).all (zchkb 35) = true := by decide +kernel
theorem zb_35 : zv_b35.all (zchkb 35) = true := by
  have e : zv_b35 = (zv_b35.drop 0).take 1 := rfl
  rw [e]
  simp only [List.all_append, zb_35_0, Bool.and_self]
theorem zb_36_0 : ((zv_b36.drop 0).take 1).all (zchkb 36) = true := by decide +kernel
theorem zb_36 : zv_b36.all (zchkb 36) = true := by
  have e : zv_b36 = (zv_b36.drop 0).take 1 := rfl
  rw [e]
  simp only [List.all_append, zb_36_0, Bool.and_self]
theorem zb_37_0 : ((zv_b37.drop 0).take 1).all (zchkb 37) = true := by decide +kernel
theorem zb_37 : zv_b37.all (zchkb 37) = true := by
  have e : zv_b37 = (zv_b37.drop 0).take 1 := rfl
  rw [e]
  simp only [List.all_append, zb_37_0, Bool.and_self]
theorem zb_38_0 : ((zv_b38.drop 0).take 1).all (zchkb 38) = true := by decide +kernel
theorem zb_38 : zv_b38.all (zchkb 38) = true := by
  have e : zv_b38 = (zv_b38.drop 0).take 1 := rfl
  rw [e]
  simp only [List.all_append, zb_38_0, Bool.and_self]
theorem zb_39_0 : ((zv_b39.drop 0).take 3).all (zchkb 39) = true := by decide +kernel
theorem zb_39 : zv_b39.all (zchkb 39) = true := by
  have e : zv_b39 = (zv_b39.drop 0).take 3 := rfl
  rw [e]
  simp only [List.all_append, zb_39_0, Bool.and_self]
theorem zb_40_0 : ((zv_b40.drop 0).take 4).all (zchkb 40) = true := by decide +kernel
theorem zb_40_4 : ((zv_b40.drop 4).take 1).all (zchkb 40) = true := by decide +kernel
theorem zb_40 : zv_b40.all (zchkb 40) = true := by
  have e : zv_b40 = (zv_b40.drop 0).take 4 ++ ((zv_b40.drop 4).take 1) := rfl
  rw [e]
  simp only [List.all_append, zb_40_0, zb_40_4, Bool.and_self]
theorem zb_41_0 : ((zv_b41.drop 0).take 1).all (zchkb 41) = true := by decide +kernel
theorem zb_41_1 : ((zv_b41.drop 1).take 3).all (zchkb 41) = true := by decide +kernel
theorem zb_41 : zv_b41.all (zchkb 41) = true := by
  have e : zv_b41 = (zv_b41.drop 0).take 1 ++ ((zv_b41.drop 1).take 3) := rfl
  rw [e]
  simp only [List.all_append, zb_41_0, zb_41_1, Bool.and_self]
theorem zb_42_0 : ((zv_b42.drop 0).take 1).all (zchkb 42) = true := by decide +kernel
theorem zb_42_1 : ((zv_b42.drop 1).take 1).all (zchkb 42) = true := by decide +kernel
theorem zb_42_2 : ((zv_b42.drop 2).take 4).all (zchkb 42) = true := by decide +kernel
theorem zb_42 : zv_b42.all (zchkb 42) = true := by
  have e : zv_b42 = (zv_b42.drop 0).take 1 ++ ((zv_b42.drop 1).take 1 ++ ((zv_b42.drop 2).take 4)) := rfl
  rw [e]
  simp only [List.all_append, zb_42_0, zb_42_1, zb_42_2, Bool.and_self]
theorem zb_43_0 : ((zv_b43.drop 0).take 3).all (zchkb 43) = true := by decide +kernel
theorem zb_43 : zv_b43.all (zchkb 43) = true := by
  have e : zv_b43 = (zv_b43.drop 0).take 3 := rfl
  rw [e]
  simp only [List.all_append, zb_43_0, Bool.and_self]
theorem zb_44_0 : ((zv_b44.drop 0).take 5).all (zchkb 44) = true := by decide +kernel
theorem zb_44_5 : ((zv_b44.drop 5).take 2).all (zchkb 44) = true := by decide +kernel
theorem zb_44 : zv_b44.all (zchkb 44) = true := by
  have e : zv_b44 = (zv_b44.drop 0).take 5 ++ ((zv_b44.drop 5).take 2) := rfl
  rw [e]
  simp only [List.all_append, zb_44_0, zb_44_5, Bool.and_self]
theorem zb_45_0 : ((zv_b45.drop 0).take 1).all (zchkb 45) = true := by decide +kernel
theorem zb_45 : zv_b45.all (zchkb 45) = true := by
  have e : zv_b45 = (zv_b45.drop 0).take 1 := rfl
  rw [e]
  simp only [List.all_append, zb_45_0, Bool.and_self]
theorem zb_46_0 : ((zv_b46.drop 0).take 1).all (zchkb 46) = true := by decide +kernel
theorem zb_46 : zv_b46.all (zchkb 46) = true := by
  have e : zv_b46 = (zv_b46.drop 0).take 1 := rfl
  rw [e]
  simp only [List.all_append, zb_46_0, Bool.and_self]
theorem zb_47_0 : ((zv_b47.drop 0).take 1).all (zchkb 47) = true := by decide +kernel
theorem zb_47_1 : ((zv_b47.drop 1).take 1).all (zchkb 47) = true := by decide +kernel
theorem zb_47_2 : ((zv_b47.drop 2).take 2).all (zchkb 47) = true := by decide +kernel
theorem zb_47_4 : ((zv_b47.drop 4).take 2).all (zchkb 47) = true := by decide +kernel
theorem zb_47 : zv_b47.all (zchkb 47) = true := by
  have e : zv_b47 = (zv_b47.drop 0).take 1 ++ ((zv_b47.drop 1).take 1 ++ ((zv_b47.drop 2).take 2 ++ ((zv_b47.drop 4).take 2))) := rfl
  rw [e]
  simp only [List.all_append, zb_47_0, zb_47_1, zb_47_2, zb_47_4, Bool.and_self]
theorem zb_48_0 : ((zv_b48.drop 0).take 1).all (zchkb 48) = true := by decide +kernel
theorem zb_48_1 : ((zv_b48.drop 1).take 3).all (zchkb 48) = true := by decide +kernel
theorem zb_48 : zv_b48.all (zchkb 48) = true := by
  have e : zv_b48 = (zv_b48.drop 0).take 1 ++ ((zv_b48.drop 1).take 3) := rfl
  rw [e]
  simp only [List.all_append, zb_48_0, zb_48_1, Bool.and_self]
end
section
/-! every block of every method is checked by the kernel -/
theorem zb_49_0 : ((zv_b49.drop 0).take 1).all (zchkb 49) = true := by decide +kernel
theorem zb_49 : zv_b49.all (zchkb 49) = true := by
  have e : zv_b49 = (zv_b49.drop 0).take 1 := rfl
  rw [e]
  simp only [List.all_append, zb_49_0, Bool.and_self]
theorem zb_50_0 : ((zv_b50.drop 0).take 3).all (zchkb 50) = true := by decide +kernel
theorem zb_50_3 : ((zv_b50.drop 3).take 5).all (zchkb 50) = true := by decide +kernel
theorem zb_50 : zv_b50.all (zchkb 50) = true := by
  have e : zv_b50 = (zv_b50.drop 0).take 3 ++ ((zv_b50.drop 3).take 5) := rfl
  rw [e]
  simp only [List.all_append, zb_50_0, zb_50_3, Bool.and_self]
theorem zb_51_0 : ((zv_b51.drop 0).take 5).all (zchkb 51) = true := by decide +kernel
theorem zb_51_5 : ((zv_b51.drop 5).take 6).all (zchkb 51) = true := by decide +kernel
theorem zb_51 : zv_b51.all (zchkb 51) = true := by
  have e : zv_b51 = (zv_b51.drop 0).take 5 ++ ((zv_b51.drop 5).take 6) := rfl
  rw [e]
  simp only [List.all_append, zb_51_0, zb_51_5, Bool.and_self]
theorem zb_52_0 : ((zv_b52.drop 0).take 4).all (zchkb 52) = true := by decide +kernel
theorem zb_52 : zv_b52.all (zchkb 52) = true := by
  have e : zv_b52 = (zv_b52.drop 0).take 4 := rfl
  rw [e]
  simp only [List.all_append, zb_52_0, Bool.and_self]
theorem zb_53_0 : ((zv_b53.drop 0).take 3).all (zchkb 53) = true := by decide +kernel
theorem zb_53 : zv_b53.all (zchkb 53) = true := by
  have e : zv_b53 = (zv_b53.drop 0).take 3 := rfl
  rw [e]
  simp only [List.all_append, zb_53_0, Bool.and_self]
theorem zb_54_0 : ((zv_b54.drop 0).take 3).all (zchkb 54) = true := by decide +kernel
theorem zb_54 : zv_b54.all (zchkb 54) = true := by
  have e : zv_b54 = (zv_b54.drop 0).take 3 := rfl
  rw [e]
  simp only [List.all_append, zb_54_0, Bool.and_self]
theorem zb_55_0 : ((zv_b55.drop 0).take 1).all (zchkb 55) = true := by decide +kernel
theorem zb_55 : zv_b55.all (zchkb 55) = true := by
  have e : zv_b55 = (zv_b55.drop 0).take 1 := rfl
  rw [e]
  simp only [List.all_append, zb_55_0, Bool.and_self]
theorem zb_56_0 : ((zv_b56.drop 0).take 1).all (zchkb 56) = true := by decide +kernel
theorem zb_56 : zv_b56.all (zchkb 56) = true := by
  have e : zv_b56 = (zv_b56.drop 0).take 1 := rfl
  rw [e]
  simp only [List.all_append, zb_56_0, Bool.and_self]
theorem zb_57_0 : ((zv_b57.drop 0).take 1).all (zchkb 57) = true := by decide +kernel
theorem zb_57 : zv_b57.all (zchkb 57) = true := by
  have e : zv_b57 = (zv_b57.drop 0).take 1 := rfl
  rw [e]
  simp only [List.all_append, zb_57_0, Bool.and_self]
theorem zb_58_0 : ((zv_b58.drop 0).take 1).all (zchkb 58) = true := by decide +kernel
theorem zb_58 : zv_b58.all (zchkb 58) = true := by
  have e : zv_b58 = (zv_b58.drop 0).take 1 := rfl
  rw [e]
  simp only [List.all_append, zb_58_0, Bool.and_self]
theorem zb_59_0 : ((zv_b59.drop 0).take 3).all (zchkb 59) = true := by decide +kernel
theorem zb_59 : zv_b59.all (zchkb 59) = true := by
  have e : zv_b59 = (zv_b59.drop 0).take 3 := rfl
  rw [e]
  simp only [List.all_append, zb_59_0, Bool.and_self]
theorem zb_60_0 : ((zv_b60.drop 0).take 3).all (zchkb 60) = true := by decide +kernel
theorem zb_60_3 : ((zv_b60.drop 3).take 3).all (zchkb 60) = true := by decide +kernel
theorem zb_60 : zv_b60.all (zchkb 60) = true := by
  have e : zv_b60 = (zv_b60.drop 0).take 3 ++ ((zv_b60.drop 3).take 3) := rfl
  rw [e]
  simp only [List.all_append, zb_60_0, zb_60_3, Bool.and_self]
theorem zb_61_0 : ((zv_b61.drop 0).take 1).all (zchkb 61) = true := by decide +kernel
theorem zb_61 : zv_b61.all (zchkb 61) = true := by
  have e : zv_b61 = (zv_b61.drop 0).take 1 := rfl
  rw [e]
  simp only [List.all_append, zb_61_0, Bool.and_self]
theorem zb_62_0 : ((zv_b62.drop 0).take 1).all (zchkb 62) = true := by decide +kernel
theorem zb_62 : zv_b62.all (zchkb 62) = true := by
  have e : zv_b62 = (zv_b62.drop 0).take 1 := rfl
  rw [e]
  simp only [List.all_append, zb_62_0, Bool.and_self]
theorem zb_63_0 : ((zv_b63.drop 0).take 3).all (zchkb 63) = true := by decide +kernel
theorem zb_63 : zv_b63.all (zchkb 63) = true := by
  have e : zv_b63 = (zv_b63.drop 0).take 3 := rfl
  rw [e]
  simp only [List.all_append, zb_63_0, Bool.and_self]
theorem zb_64_0 : ((zv_b64.drop 0).take 1).all (zchkb 64) = true := by decide +kernel
theorem zb_64_1 : ((zv_b64.drop 1).take 1).all (zchkb 64) = true := by decide +kernel
theorem zb_64_2 : ((zv_b64.drop 2).take 3).all (zchkb 64) = true := by decide +kernel
theorem zb_64 : zv_b64.all (zchkb 64) = true := by
  have e : zv_b64 = (zv_b64.drop 0).take 1 ++ ((zv_b64.drop 1).take 1 ++ ((zv_b64.drop 2).take 3)) := rfl
  rw [e]
  simp only [List.all_append, zb_64_0, zb_64_1, zb_64_2, Bool.and_self]
theorem zb_65_0 : ((zv_b65.drop 0).take 1).all (zchkb 65) = true := by decide +kernel
theorem zb_65 : zv_b65.all (zchkb 65) = true := by
  have e : zv_b65 = (zv_b65.drop 0).take 1 := rfl
  rw [e]
  simp only [List.all_append, zb_65_0, Bool.and_self]
theorem zb_66_0 : ((zv_b66.drop 0).take 2).all (zchkb 66) = true := by decide +kernel
theorem zb_66 : zv_b66.all (zchkb 66) = true := by
  have e : zv_b66 = (zv_b66.drop 0).take 2 := rfl
  rw [e]
  simp only [List.all_append, zb_66_0, Bool.and_self]
theorem zb_67_0 : ((zv_b67.drop 0).take 4).all (zchkb 67) = true := by decide +kernel
theorem zb_67 : zv_b67.all (zchkb 67) = true := by
  have e : zv_b67 = (zv_b67.drop 0).take 4 := rfl
  rw [e]
  simp only [List.all_append, zb_67_0, Bool.and_self]
theorem zb_68_0 : ((zv_b68.drop 0).take 7).all (zchkb 68) = true := by decide +kernel
theorem zb_68 : zv_b68.all (zchkb 68) = true := by
  have e : zv_b68 = (zv_b68.drop 0).take 7 := rfl
  rw [e]
  simp only [List.all_append, zb_68_0, Bool.and_self]
theorem zb_69_0 : ((zv_b69.drop 0).take 3).all (zchkb 69) = true := by decide +kernel
theorem zb_69_3 : ((zv_b69.drop 3).take 2).all (zchkb 69) = true := by decide +kernel
theorem zb_69 : zv_b69.all (zchkb 69) = true := by
  have e : zv_b69 = (zv_b69.drop 0).take 3 ++ ((zv_b69.drop 3).take 2) := rfl
  rw [e]
  simp only [List.all_append, zb_69_0, zb_69_3, Bool.and_self]
theorem zb_70_0 : ((zv_b70.drop 0).take 3).all (zchkb 70) = true := by decide +kernel
theorem zb_70_3 : ((zv_b70.drop 3).take 1).all (zchkb 70) = true := by decide +kernel
theorem zb_70_4 : ((zv_b70.drop 4).take 4).all (zchkb 70) = true := by decide +kernel
theorem zb_70 : zv_b70.all (zchkb 70) = true := by
  have e : zv_b70 = (zv_b70.drop 0).take 3 ++ ((zv_b70.drop 3).take 1 ++ ((zv_b70.drop 4).take 4)) := rfl
  rw [e]
  simp only [List.all_append, zb_70_0, zb_70_3, zb_70_4, Bool.and_self]
theorem zb_71_0 : ((zv_b71.drop 0).take 3).all (zchkb 71) = true := by decide +kernel
theorem zb_71 : zv_b71.all (zchkb 71) = true := by
  have e : zv_b71 = (zv_b71.drop 0).take 3 := rfl
  rw [e]
  simp only [List.all_append, zb_71_0, Bool.and_self]
theorem zb_72_0 : ((zv_b72.drop 0).take 2).all (zchkb 72) = true := by decide +kernel
theorem zb_72 : zv_b72.all (zchkb 72) = true := by
  have e : zv_b72 = (zv_b72.drop 0).take 2 := rfl
  rw [e]
  simp only [List.all_append, zb_72_0, Bool.and_self]
theorem zb_73_0 : ((zv_b73.drop 0).take 4).all (zchkb 73) = true := by decide +kernel
theorem zb_73_4 : ((zv_b73.drop 4).take 1).all (zchkb 73) = true := by decide +kernel
theorem zb_73 : zv_b73.all (zchkb 73) = true := by
  have e : zv_b73 = (zv_b73.drop 0).take 4 ++ ((zv_b73.drop 4).take 1) := rfl
  rw [e]
  simp only [List.all_append, zb_73_0, zb_73_4, Bool.and_self]
theorem zb_74_0 : ((zv_b74.drop 0).take 5).all (zchkb 74) = true := by decide +kernel
theorem zb_74_5 : ((zv_b74.drop 5).take 1).all (zchkb 74) = true := by decide +kernel
theorem zb_74 : zv_b74.all (zchkb 74) = true := by
  have e : zv_b74 = (zv_b74.drop 0).take 5 ++ ((zv_b74.drop 5).take 1) := rfl
  rw [e]
  simp only [List.all_append, zb_74_0, zb_74_5, Bool.and_self]
theorem zb_75_0 : ((zv_b75.drop 0).take 3).all (zchkb 75) = true := by decide +kernel
theorem zb_75_3 : ((zv_b75.drop 3).take 3).all (zchkb 75) = true := by decide +kernel
theorem zb_75 : zv_b75.all (zchkb 75) = true := by
  have e : zv_b75 = (zv_b75.drop 0).take 3 ++ ((zv_b75.drop 3).take 3) := rfl
  rw [e]
  simp only [List.all_append, zb_75_0, zb_75_3, Bool.and_self]
theorem zb_76_0 : ((zv_b76.drop 0).take 5).all (zchkb 76) = true := by decide +kernel
theorem zb_76_5 : ((zv_b76.drop 5).take 4).all (zchkb 76) = true := by decide +kernel
theorem zb_76_9 : ((zv_b76.drop 9).take 4).all (zchkb 76) = true := by decide +kernel
theorem zb_76 : zv_b76.all (zchkb 76) = true := by
  have e : zv_b76 = (zv_b76.drop 0).take 5 ++ ((zv_b76.drop 5).take 4 ++ ((zv_b76.drop 9).take 4)) := rfl
  rw [e]
  simp only [List.all_append, zb_76_0, zb_76_5, zb_76_9, Bool.and_self]
theorem zb_77_0 : ((zv_b77.drop 0).take 5).all (zchkb 77) = true := by decide +kernel
theorem zb_77 : zv_b77.all (zchkb 77) = true := by
  have e : zv_b77 = (zv_b77.drop 0).take 5 := rfl
  rw [e]
  simp only [List.all_append, zb_77_0, Bool.and_self]
theorem zb_78_0 : ((zv_b78.drop 0).take 5).all (zchkb 78) = true := by decide +kernel
theorem zb_78 : zv_b78.all (zchkb 78) = true := by
  have e : zv_b78 = (zv_b78.drop 0).take 5 := rfl
  rw [e]
  simp only [List.all_append, zb_78_0, Bool.and_self]
theorem zb_79_0 : ((zv_b79.drop 0).take 3).all (zchkb 79) = true := by decide +kernel
theorem zb_79 : zv_b79.all (zchkb 79) = true := by
  have e : zv_b79 = (zv_b79.drop 0).take 3 := rfl
  rw [e]
  simp only [List.all_append, zb_79_0, Bool.and_self]
theorem zb_80_0 : ((zv_b80.drop 0).take 8).all (zchkb 80) = true := by decide +kernel
theorem zb_80 : zv_b80.all (zchkb 80) = true := by
  have e : zv_b80 = (zv_b80.drop 0).take 8 := rfl
  rw [e]
  simp only [List.all_append, zb_80_0, Bool.and_self]
theorem zb_81_0 : ((zv_b81.drop 0).take 1).all (zchkb 81) = true := by decide +kernel
theorem zb_81 : zv_b81.all (zchkb 81) = true := by
  have e : zv_b81 = (zv_b81.drop 0).take 1 := rfl
  rw [e]
  simp only [List.all_append, zb_81_0, Bool.and_self]
theorem zb_82_0 : ((zv_b82.drop 0).take 2).all (zchkb 82) = true := by decide +kernel
theorem zb_82 : zv_b82.all (zchkb 82) = true := by
  have e : zv_b82 = (zv_b82.drop 0).take 2 := rfl
  rw [e]
  simp only [List.all_append, zb_82_0, Bool.and_self]
theorem zb_83_0 : ((zv_b83.drop 0).take 3).all (zchkb 83) = true := by decide +kernel
theorem zb_83 : zv_b83.all (zchkb 83) = true := by
  have e : zv_b83 = (zv_b83.drop 0).take 3 := rfl
  rw [e]
  simp only [List.all_append, zb_83_0, Bool.and_self]
theorem zb_84_0 : ((zv_b84.drop 0).take 1).all (zchkb 84) = true := by decide +kernel
theorem zb_84_1 : ((zv_b84.drop 1).take 1).all (zchkb 84) = true := by decide +kernel
theorem zb_84 : zv_b84.all (zchkb 84) = true := by
  have e : zv_b84 = (zv_b84.drop 0).take 1 ++ ((zv_b84.drop 1).take 1) := rfl
  rw [e]
  simp only [List.all_append, zb_84_0, zb_84_1, Bool.and_self]
theorem zb_85_0 : ((zv_b85.drop 0).take 4).all (zchkb 85) = true := by decide +kernel
theorem zb_85 : zv_b85.all (zchkb 85) = true := by
  have e : zv_b85 = (zv_b85.drop 0).take 4 := rfl
  rw [e]
  simp only [List.all_append, zb_85_0, Bool.and_self]
theorem zb_86_0 : ((zv_b86.drop 0).take 4).all (zchkb 86) = true := by decide +kernel
theorem zb_86 : zv_b86.all (zchkb 86) = true := by
  have e : zv_b86 = (zv_b86.drop 0).take 4 := rfl
  rw [e]
  simp only [List.all_append, zb_86_0, Bool.and_self]
theorem zb_87_0 : ((zv_b87.drop 0).take 4).all (zchkb 87) = true := by decide +kernel
theorem zb_87_4 : ((zv_b87.drop 4).take 2).all (zchkb 87) = true := by decide +kernel
theorem zb_87 : zv_b87.all (zchkb 87) = true := by
  have e : zv_b87 = (zv_b87.drop 0).take 4 ++ ((zv_b87.drop 4).take 2) := rfl
  rw [e]
  simp only [List.all_append, zb_87_0, zb_87_4, Bool.and_self]
theorem zb_88_0 : ((zv_b88.drop 0).take 2).all (zchkb 88) = true := by decide +kernel
theorem zb_88 : zv_b88.all (zchkb 88) = true := by
  have e : zv_b88 = (zv_b88.drop 0).take 2 := rfl
  rw [e]
  simp only [List.all_append, zb_88_0, Bool.and_self]
theorem zb_89_0 : ((zv_b89.drop 0).take 4).all (zchkb 89) = true := by decide +kernel
theorem zb_89_4 : ((zv_b89.drop 4).take 1).all (zchkb 89) = true := by decide +kernel
theorem zb_89 : zv_b89.all (zchkb 89) = true := by
  have e : zv_b89 = (zv_b89.drop 0).take 4 ++ ((zv_b89.drop 4).take 1) := rfl
  rw [e]
  simp only [List.all_append, zb_89_0, zb_89_4, Bool.and_self]
theorem zb_90_0 : ((zv_b90.drop 0).take 1).all (zchkb 90) = true := by decide +kernel
theorem zb_90 : zv_b90.all (zchkb 90) = true := by
  have e : zv_b90 = (zv_b90.drop 0).take 1 := rfl
  rw [e]
  simp only [List.all_append, zb_90_0, Bool.and_self]
theorem zb_91_0 : ((zv_b91.drop 0).take 1).all (zchkb 91) = true := by decide +kernel
theorem zb_91 : zv_b91.all (zchkb 91) = true := by
  have e : zv_b91 = (zv_b91.drop 0).take 1 := rfl
  rw [e]
  simp only [List.all_append, zb_91_0, Bool.and_self]
theorem zb_92_0 : ((zv_b92.drop 0).take 3).all (zchkb 92) = true := by decide +kernel
theorem zb_92 : zv_b92.all (zchkb 92) = true := by
  have e : zv_b92 = (zv_b92.drop 0).take 3 := rfl
  rw [e]
  simp only [List.all_append, zb_92_0, Bool.and_self]
theorem zb_93_0 : ((zv_b93.drop 0).take 1).all (zchkb 93) = true := by decide +kernel
theorem zb_93 : zv_b93.all (zchkb 93) = true := by
  have e : zv_b93 = (zv_b93.drop 0).take 1 := rfl
  rw [e]
  simp only [List.all_append, zb_93_0, Bool.and_self]
theorem zb_94_0 : ((zv_b94.drop 0).take 4).all (zchkb 94) = true := by decide +kernel
theorem zb_94_4 : ((zv_b94.drop 4).take 5).all (zchkb 94) = true := by decide +kernel
theorem zb_94 : zv_b94.all (zchkb 94) = true := by
  have e : zv_b94 = (zv_b94.drop 0).take 4 ++ ((zv_b94.drop 4).take 5) := rfl
  rw [e]
  simp only [List.all_append, zb_94_0, zb_94_4, Bool.and_self]
theorem zb_95_0 : ((zv_b95.drop 0).take 8).all (zchkb 95) = true := by decide +kernel
theorem zb_95 : zv_b95.all (zchkb 95) = true := by
  have e : zv_b95 = (zv_b95.drop 0).take 8 := rfl
  rw [e]
  simp only [List.all_append, zb_95_0, Bool.and_self]
theorem zb_96_0 : ((zv_b96.drop 0).take 3).all (zchkb 96) = true := by decide +kernel
theorem zb_96 : zv_b96.all (zchkb 96) = true := by
  have e : zv_b96 = (zv_b96.drop 0).take 3 := rfl
  rw [e]
  simp only [List.all_append, zb_96_0, Bool.and_self]
theorem zb_97_0 : ((zv_b97.drop 0).take 7).all (zchkb 97) = true := by decide +kernel
theorem zb_97 : zv_b97.all (zchkb 97) = true := by
  have e : zv_b97 = (zv_b97.drop 0).take 7 := rfl
  rw [e]
  simp only [List.all_append, zb_97_0, Bool.and_self]
theorem zb_98_0 : ((zv_b98.drop 0).take 4).all (zchkb 98) = true := by decide +kernel
theorem zb_98 : zv_b98.all (zchkb 98) = true := by
  have e : zv_b98 = (zv_b98.drop 0).take 4 := rfl
  rw [e]
  simp only [List.all_append, zb_98_0, Bool.and_self]
theorem zb_99_0 : ((zv_b99.drop 0).take 4).all (zchkb 99) = true := by decide +kernel
theorem zb_99_4 : ((zv_b99.drop 4).take 4).all (zchkb 99) = true := by decide +kernel
theorem zb_99_8 : ((zv_b99.drop 8).take 3).all (zchkb 99) = true := by decide +kernel
theorem zb_99 : zv_b99.all (zchkb 99) = true := by
  have e : zv_b99 = (zv_b99.drop 0).take 4 ++ ((zv_b99.drop 4).take 4 ++ ((zv_b99.drop 8).take 3)) := rfl
  rw [e]
  simp only [List.all_append, zb_99_0, zb_99_4, zb_99_8, Bool.and_self]
theorem zb_100_0 : ((zv_b100.drop 0).take 2).all (zchkb 100) = true := by decide +kernel
theorem zb_100_2 : ((zv_b100.drop 2).take 1).all (zchkb 100) = true := by decide +kernel
theorem zb_100_3 : ((zv_b100.drop 3).take 5).all (zchkb 100) = true := by decide +kernel
theorem zb_100 : zv_b100.all (zchkb 100) = true := by
  have e : zv_b100 = (zv_b100.drop 0).take 2 ++ ((zv_b100.drop 2).take 1 ++ ((zv_b100.drop 3).take 5)) := rfl
  rw [e]
  simp only [List.all_append, zb_100_0, zb_100_2, zb_100_3, Bool.and_self]
theorem zb_101_0 : ((zv_b101.drop 0).take 1).all (zchkb 101) = true := by decide +kernel
theorem zb_101 : zv_b101.all (zchkb 101) = true := by
  have e : zv_b101 = (zv_b101.drop 0).take 1 := rfl
  rw [e]
  simp only [List.all_append, zb_101_0, Bool.and_self]
theorem zb_102_0 : ((zv_b102.drop 0).take 3).all (zchkb 102) = true := by decide +kernel
theorem zb_102 : zv_b102.all (zchkb 102) = true := by
  have e : zv_b102 = (zv_b102.drop 0).take 3 := rfl
  rw [e]
  simp only [List.all_append, zb_102_0, Bool.and_self]
theorem zb_103_0 : ((zv_b103.drop 0).take 3).all (zchkb 103) = true := by decide +kernel
theorem zb_103 : zv_b103.all (zchkb 103) = true := by
  have e : zv_b103 = (zv_b103.drop 0).take 3 := rfl
  rw [e]
  simp only [List.all_append, zb_103_0, Bool.and_self]
theorem zb_104_0 : ((zv_b104.drop 0).take 2).all (zchkb 104) = true := by decide +kernel
theorem zb_104_2 : ((zv_b104.drop 2).take 2).all (zchkb 104) = true := by decide +kernel
theorem zb_104_4 : ((zv_b104.drop 4).take 5).all (zchkb 104) = true := by decide +kernel
theorem zb_104 : zv_b104.all (zchkb 104) = true := by
  have e : zv_b104 = (zv_b104.drop 0).take 2 ++ ((zv_b104.drop 2).take 2 ++ ((zv_b104.drop 4).take 5)) := rfl
  rw [e]
  simp only [List.all_append, zb_104_0, zb_104_2, zb_104_4, Bool.and_self]
end
section
/-! every block of every method is checked by the kernel -/
theorem zb_105_0 : ((zv_b105.drop 0).take 1).all (zchkb 105) = true := by decide +kernel
theorem zb_105 : zv_b105.all (zchkb 105) = true := by
  have e : zv_b105 = (zv_b105.drop 0).take 1 := rfl
  rw [e]
  simp only [List.all_append, zb_105_0, Bool.and_self]
theorem zb_106_0 : ((zv_b106.drop 0).take 3).all (zchkb 106) = true := by decide +kernel
theorem zb_106_3 : ((zv_b106.drop 3).take 3).all (zchkb 106) = true := by decide +kernel
theorem zb_106 : zv_b106.all (zchkb 106) = true := by
  have e : zv_b106 = (zv_b106.drop 0).take 3 ++ ((zv_b106.drop 3).take 3) := rfl
  rw [e]
  simp only [List.all_append, zb_106_0, zb_106_3, Bool.and_self]
theorem zb_107_0 : ((zv_b107.drop 0).take 1).all (zchkb 107) = true := by decide +kernel
theorem zb_107 : zv_b107.all (zchkb 107) = true := by
  have e : zv_b107 = (zv_b107.drop 0).take 1 := rfl
  rw [e]
  simp only [List.all_append, zb_107_0, Bool.and_self]
theorem zb_108_0 : ((zv_b108.drop 0).take 1).all (zchkb 108) = true := by decide +kernel
theorem zb_108 : zv_b108.all (zchkb 108) = true := by
  have e : zv_b108 = (zv_b108.drop 0).take 1 := rfl
  rw [e]
  simp only [List.all_append, zb_108_0, Bool.and_self]
theorem zb_109_0 : ((zv_b109.drop 0).take 5).all (zchkb 109) = true := by decide +kernel
theorem zb_109 : zv_b109.all (zchkb 109) = true := by
  have e : zv_b109 = (zv_b109.drop 0).take 5 := rfl
  rw [e]
  simp only [List.all_append, zb_109_0, Bool.and_self]
theorem zb_110_0 : ((zv_b110.drop 0).take 4).all (zchkb 110) = true := by decide +kernel
theorem zb_110_4 : ((zv_b110.drop 4).take 3).all (zchkb 110) = true := by decide +kernel
theorem zb_110 : zv_b110.all (zchkb 110) = true := by
  have e : zv_b110 = (zv_b110.drop 0).take 4 ++ ((zv_b110.drop 4).take 3) := rfl
  rw [e]
  simp only [List.all_append, zb_110_0, zb_110_4, Bool.and_self]
theorem zb_111_0 : ((zv_b111.drop 0).take 2).all (zchkb 111) = true := by decide +kernel
theorem zb_111_2 : ((zv_b111.drop 2).take 1).all (zchkb 111) = true := by decide +kernel
theorem zb_111 : zv_b111.all (zchkb 111) = true := by
  have e : zv_b111 = (zv_b111.drop 0).take 2 ++ ((zv_b111.drop 2).take 1) := rfl
  rw [e]
  simp only [List.all_append, zb_111_0, zb_111_2, Bool.and_self]
theorem zb_112_0 : ((zv_b112.drop 0).take 4).all (zchkb 112) = true := by decide +kernel
theorem zb_112_4 : ((zv_b112.drop 4).take 8).all (zchkb 112) = true := by decide +kernel
theorem zb_112_12 : ((zv_b112.drop 12).take 2).all (zchkb 112) = true := by decide +kernel
theorem zb_112 : zv_b112.all (zchkb 112) = true := by
  have e : zv_b112 = (zv_b112.drop 0).take 4 ++ ((zv_b112.drop 4).take 8 ++ ((zv_b112.drop 12).take 2)) := rfl
  rw [e]
  simp only [List.all_append, zb_112_0, zb_112_4, zb_112_12, Bool.and_self]
theorem zb_113_0 : ((zv_b113.drop 0).take 1).all (zchkb 113) = true := by decide +kernel
theorem zb_113 : zv_b113.all (zchkb 113) = true := by
  have e : zv_b113 = (zv_b113.drop 0).take 1 := rfl
  rw [e]
  simp only [List.all_append, zb_113_0, Bool.and_self]
theorem zb_114_0 : ((zv_b114.drop 0).take 3).all (zchkb 114) = true := by decide +kernel
theorem zb_114 : zv_b114.all (zchkb 114) = true := by
  have e : zv_b114 = (zv_b114.drop 0).take 3 := rfl
  rw [e]
  simp only [List.all_append, zb_114_0, Bool.and_self]
theorem zb_115_0 : ((zv_b115.drop 0).take 3).all (zchkb 115) = true := by decide +kernel
theorem zb_115 : zv_b115.all (zchkb 115) = true := by
  have e : zv_b115 = (zv_b115.drop 0).take 3 := rfl
  rw [e]
  simp only [List.all_append, zb_115_0, Bool.and_self]
theorem zb_116_0 : ((zv_b116.drop 0).take 1).all (zchkb 116) = true := by decide +kernel
theorem zb_116_1 : ((zv_b116.drop 1).take 2).all (zchkb 116) = true := by decide +kernel
theorem zb_116_3 : ((zv_b116.drop 3).take 1).all (zchkb 116) = true := by decide +kernel
theorem zb_116_4 : ((zv_b116.drop 4).take 4).all (zchkb 116) = true := by decide +kernel
theorem zb_116 : zv_b116.all (zchkb 116) = true := by
  have e : zv_b116 = (zv_b116.drop 0).take 1 ++ ((zv_b116.drop 1).take 2 ++ ((zv_b116.drop 3).take 1 ++ ((zv_b116.drop 4).take 4))) := rfl
  rw [e]
  simp only [List.all_append, zb_116_0, zb_116_1, zb_116_3, zb_116_4, Bool.and_self]
theorem zb_117_0 : ((zv_b117.drop 0).take 3).all (zchkb 117) = true := by decide +kernel
theorem zb_117 : zv_b117.all (zchkb 117) = true := by
  have e : zv_b117 = (zv_b117.drop 0).take 3 := rfl
  rw [e]
  simp only [List.all_append, zb_117_0, Bool.and_self]
theorem zb_118_0 : ((zv_b118.drop 0).take 3).all (zchkb 118) = true := by decide +kernel
theorem zb_118 : zv_b118.all (zchkb 118) = true := by
  have e : zv_b118 = (zv_b118.drop 0).take 3 := rfl
  rw [e]
  simp only [List.all_append, zb_118_0, Bool.and_self]
theorem zb_119_0 : ((zv_b119.drop 0).take 5).all (zchkb 119) = true := by decide +kernel
theorem zb_119 : zv_b119.all (zchkb 119) = true := by
  have e : zv_b119 = (zv_b119.drop 0).take 5 := rfl
  rw [e]
  simp only [List.all_append, zb_119_0, Bool.and_self]
theorem zb_120_0 : ((zv_b120.drop 0).take 1).all (zchkb 120) = true := by decide +kernel
theorem zb_120 : zv_b120.all (zchkb 120) = true := by
  have e : zv_b120 = (zv_b120.drop 0).take 1 := rfl
  rw [e]
  simp only [List.all_append, zb_120_0, Bool.and_self]
theorem zb_121_0 : ((zv_b121.drop 0).take 3).all (zchkb 121) = true := by decide +kernel
theorem zb_121 : zv_b121.all (zchkb 121) = true := by
  have e : zv_b121 = (zv_b121.drop 0).take 3 := rfl
  rw [e]
  simp only [List.all_append, zb_121_0, Bool.and_self]
theorem zb_122_0 : ((zv_b122.drop 0).take 1).all (zchkb 122) = true := by decide +kernel
theorem zb_122 : zv_b122.all (zchkb 122) = true := by
  have e : zv_b122 = (zv_b122.drop 0).take 1 := rfl
  rw [e]
  simp only [List.all_append, zb_122_0, Bool.and_self]
theorem zb_123_0 : ((zv_b123.drop 0).take 3).all (zchkb 123) = true := by decide +kernel
theorem zb_123 : zv_b123.all (zchkb 123) = true := by
  have e : zv_b123 = (zv_b123.drop 0).take 3 := rfl
  rw [e]
  simp only [List.all_append, zb_123_0, Bool.and_self]
theorem zb_124_0 : ((zv_b124.drop 0).take 3).all (zchkb 124) = true := by decide +kernel
theorem zb_124 : zv_b124.all (zchkb 124) = true := by
  have e : zv_b124 = (zv_b124.drop 0).take 3 := rfl
  rw [e]
  simp only [List.all_append, zb_124_0, Bool.and_self]
theorem zb_125_0 : ((zv_b125.drop 0).take 1).all (zchkb 125) = true := by decide +kernel
theorem zb_125_1 : ((zv_b125.drop 1).take 3).all (zchkb 125) = true := by decide +kernel
theorem zb_125 : zv_b125.all (zchkb 125) = true := by
  have e : zv_b125 = (zv_b125.drop 0).take 1 ++ ((zv_b125.drop 1).take 3) := rfl
  rw [e]
  simp only [List.all_append, zb_125_0, zb_125_1, Bool.and_self]
theorem zb_126_0 : ((zv_b126.drop 0).take 5).all (zchkb 126) = true := by decide +kernel
theorem zb_126 : zv_b126.all (zchkb 126) = true := by
  have e : zv_b126 = (zv_b126.drop 0).take 5 := rfl
  rw [e]
  simp only [List.all_append, zb_126_0, Bool.and_self]
theorem zb_127_0 : ((zv_b127.drop 0).take 1).all (zchkb 127) = true := by decide +kernel
theorem zb_127 : zv_b127.all (zchkb 127) = true := by
  have e : zv_b127 = (zv_b127.drop 0).take 1 := rfl
  rw [e]
  simp only [List.all_append, zb_127_0, Bool.and_self]
theorem zb_128_0 : ((zv_b128.drop 0).take 1).all (zchkb 128) = true := by decide +kernel
theorem zb_128_1 : ((zv_b128.drop 1).take 2).all (zchkb 128) = true := by decide +kernel
theorem zb_128_3 : ((zv_b128.drop 3).take 3).all (zchkb 128) = true := by decide +kernel
theorem zb_128_6 : ((zv_b128.drop 6).take 2).all (zchkb 128) = true := by decide +kernel
theorem zb_128_8 : ((zv_b128.drop 8).take 1).all (zchkb 128) = true := by decide +kernel
theorem zb_128 : zv_b128.all (zchkb 128) = true := by
  have e : zv_b128 = (zv_b128.drop 0).take 1 ++ ((zv_b128.drop 1).take 2 ++ ((zv_b128.drop 3).take 3 ++ ((zv_b128.drop 6).take 2 ++ ((zv_b128.drop 8).take 1)))) := rfl
  rw [e]
  simp only [List.all_append, zb_128_0, zb_128_1, zb_128_3, zb_128_6, zb_128_8, Bool.and_self]
theorem zb_129_0 : ((zv_b129.drop 0).take 3).all (zchkb 129) = true := by decide +kernel
theorem zb_129_3 : ((zv_b129.drop 3).take 2).all (zchkb 129) = true := by decide +kernel
theorem zb_129_5 : ((zv_b129.drop 5).take 3).all (zchkb 129) = true := by decide +kernel
theorem zb_129 : zv_b129.all (zchkb 129) = true := by
  have e : zv_b129 = (zv_b129.drop 0).take 3 ++ ((zv_b129.drop 3).take 2 ++ ((zv_b129.drop 5).take 3)) := rfl
  rw [e]
  simp only [List.all_append, zb_129_0, zb_129_3, zb_129_5, Bool.and_self]
theorem zb_130_0 : ((zv_b130.drop 0).take 2).all (zchkb 130) = true := by decide +kernel
theorem zb_130_2 : ((zv_b130.drop 2).take 1).all (zchkb 130) = true := by decide +kernel
theorem zb_130 : zv_b130.all (zchkb 130) = true := by
  have e : zv_b130 = (zv_b130.drop 0).take 2 ++ ((zv_b130.drop 2).take 1) := rfl
  rw [e]
  simp only [List.all_append, zb_130_0, zb_130_2, Bool.and_self]
theorem zb_131_0 : ((zv_b131.drop 0).take 1).all (zchkb 131) = true := by decide +kernel
theorem zb_131 : zv_b131.all (zchkb 131) = true := by
  have e : zv_b131 = (zv_b131.drop 0).take 1 := rfl
  rw [e]
  simp only [List.all_append, zb_131_0, Bool.and_self]
theorem zb_132_0 : ((zv_b132.drop 0).take 1).all (zchkb 132) = true := by decide +kernel
theorem zb_132 : zv_b132.all (zchkb 132) = true := by
  have e : zv_b132 = (zv_b132.drop 0).take 1 := rfl
  rw [e]
  simp only [List.all_append, zb_132_0, Bool.and_self]
theorem zb_133_0 : ((zv_b133.drop 0).take 8).all (zchkb 133) = true := by decide +kernel
theorem zb_133_8 : ((zv_b133.drop 8).take 7).all (zchkb 133) = true := by decide +kernel
theorem zb_133 : zv_b133.all (zchkb 133) = true := by
  have e : zv_b133 = (zv_b133.drop 0).take 8 ++ ((zv_b133.drop 8).take 7) := rfl
  rw [e]
  simp only [List.all_append, zb_133_0, zb_133_8, Bool.and_self]
theorem zb_134_0 : ((zv_b134.drop 0).take 3).all (zchkb 134) = true := by decide +kernel
theorem zb_134_3 : ((zv_b134.drop 3).take 1).all (zchkb 134) = true := by decide +kernel
theorem zb_134 : zv_b134.all (zchkb 134) = true := by
  have e : zv_b134 = (zv_b134.drop 0).take 3 ++ ((zv_b134.drop 3).take 1) := rfl
  rw [e]
  simp only [List.all_append, zb_134_0, zb_134_3, Bool.and_self]
theorem zb_135_0 : ((zv_b135.drop 0).take 1).all (zchkb 135) = true := by decide +kernel
theorem zb_135 : zv_b135.all (zchkb 135) = true := by
  have e : zv_b135 = (zv_b135.drop 0).take 1 := rfl
  rw [e]
  simp only [List.all_append, zb_135_0, Bool.and_self]
theorem zb_136_0 : ((zv_b136.drop 0).take 3).all (zchkb 136) = true := by decide +kernel
theorem zb_136_3 : ((zv_b136.drop 3).take 1).all (zchkb 136) = true := by decide +kernel
theorem zb_136_4 : ((zv_b136.drop 4).take 1).all (zchkb 136) = true := by decide +kernel
theorem zb_136 : zv_b136.all (zchkb 136) = true := by
  have e : zv_b136 = (zv_b136.drop 0).take 3 ++ ((zv_b136.drop 3).take 1 ++ ((zv_b136.drop 4).take 1)) := rfl
  rw [e]
  simp only [List.all_append, zb_136_0, zb_136_3, zb_136_4, Bool.and_self]
theorem zb_137_0 : ((zv_b137.drop 0).take 2).all (zchkb 137) = true := by decide +kernel
theorem zb_137 : zv_b137.all (zchkb 137) = true := by
  have e : zv_b137 = (zv_b137.drop 0).take 2 := rfl
  rw [e]
  simp only [List.all_append, zb_137_0, Bool.and_self]
theorem zb_138_0 : ((zv_b138.drop 0).take 5).all (zchkb 138) = true := by decide +kernel
theorem zb_138_5 : ((zv_b138.drop 5).take 1).all (zchkb 138) = true := by decide +kernel
theorem zb_138_6 : ((zv_b138.drop 6).take 6).all (zchkb 138) = true := by decide +kernel
theorem zb_138 : zv_b138.all (zchkb 138) = true := by
  have e : zv_b138 = (zv_b138.drop 0).take 5 ++ ((zv_b138.drop 5).take 1 ++ ((zv_b138.drop 6).take 6)) := rfl
  rw [e]
  simp only [List.all_append, zb_138_0, zb_138_5, zb_138_6, Bool.and_self]
theorem zb_139_0 : ((zv_b139.drop 0).take 3).all (zchkb 139) = true := by decide +kernel
theorem zb_139 : zv_b139.all (zchkb 139) = true := by
  have e : zv_b139 = (zv_b139.drop 0).take 3 := rfl
  rw [e]
  simp only [List.all_append, zb_139_0, Bool.and_self]
theorem zb_140_0 : ((zv_b140.drop 0).take 5).all (zchkb 140) = true := by decide +kernel
theorem zb_140 : zv_b140.all (zchkb 140) = true := by
  have e : zv_b140 = (zv_b140.drop 0).take 5 := rfl
  rw [e]
  simp only [List.all_append, zb_140_0, Bool.and_self]
theorem zb_141_0 : ((zv_b141.drop 0).take 4).all (zchkb 141) = true := by decide +kernel
theorem zb_141_4 : ((zv_b141.drop 4).take 4).all (zchkb 141) = true := by decide +kernel
theorem zb_141 : zv_b141.all (zchkb 141) = true := by
  have e : zv_b141 = (zv_b141.drop 0).take 4 ++ ((zv_b141.drop 4).take 4) := rfl
  rw [e]
  simp only [List.all_append, zb_141_0, zb_141_4, Bool.and_self]
theorem zb_142_0 : ((zv_b142.drop 0).take 7).all (zchkb 142) = true := by decide +kernel
theorem zb_142_7 : ((zv_b142.drop 7).take 2).all (zchkb 142) = true := by decide +kernel
theorem zb_142 : zv_b142.all (zchkb 142) = true := by
  have e : zv_b142 = (zv_b142.drop 0).take 7 ++ ((zv_b142.drop 7).take 2) := rfl
  rw [e]
  simp only [List.all_append, zb_142_0, zb_142_7, Bool.and_self]
theorem zb_143_0 : ((zv_b143.drop 0).take 2).all (zchkb 143) = true := by decide +kernel
theorem zb_143 : zv_b143.all (zchkb 143) = true := by
  have e : zv_b143 = (zv_b143.drop 0).take 2 := rfl
  rw [e]
  simp only [List.all_append, zb_143_0, Bool.and_self]
theorem zb_144_0 : ((zv_b144.drop 0).take 3).all (zchkb 144) = true := by decide +kernel
theorem zb_144 : zv_b144.all (zchkb 144) = true := by
  have e : zv_b144 = (zv_b144.drop 0).take 3 := rfl
  rw [e]
  simp only [List.all_append, zb_144_0, Bool.and_self]
theorem zb_145_0 : ((zv_b145.drop 0).take 4).all (zchkb 145) = true := by decide +kernel
theorem zb_145 : zv_b145.all (zchkb 145) = true := by
  have e : zv_b145 = (zv_b145.drop 0).take 4 := rfl
  rw [e]
  simp only [List.all_append, zb_145_0, Bool.and_self]
theorem zb_146_0 : ((zv_b146.drop 0).take 1).all (zchkb 146) = true := by decide +kernel
theorem zb_146 : zv_b146.all (zchkb 146) = true := by
  have e : zv_b146 = (zv_b146.drop 0).take 1 := rfl
  rw [e]
  simp only [List.all_append, zb_146_0, Bool.and_self]
theorem zb_147_0 : ((zv_b147.drop 0).take 6).all (zchkb 147) = true := by decide +kernel
theorem zb_147_6 : ((zv_b147.drop 6).take 1).all (zchkb 147) = true := by decide +kernel
theorem zb_147 : zv_b147.all (zchkb 147) = true := by
  have e : zv_b147 = (zv_b147.drop 0).take 6 ++ ((zv_b147.drop 6).take 1) := rfl
  rw [e]
  simp only [List.all_append, zb_147_0, zb_147_6, Bool.and_self]
theorem zb_148_0 : ((zv_b148.drop 0).take 8).all (zchkb 148) = true := by decide +kernel
theorem zb_148 : zv_b148.all (zchkb 148) = true := by
  have e : zv_b148 = (zv_b148.drop 0).take 8 := rfl
  rw [e]
  simp only [List.all_append, zb_148_0, Bool.and_self]
theorem zb_149_0 : ((zv_b149.drop 0).take 4).all (zchkb 149) = true := by decide +kernel
theorem zb_149_4 : ((zv_b149.drop 4).take 5).all (zchkb 149) = true := by decide +kernel
theorem zb_149_9 : ((zv_b149.drop 9).take 2).all (zchkb 149) = true := by decide +kernel
theorem zb_149_11 : ((zv_b149.drop 11).take 3).all (zchkb 149) = true := by decide +kernel
theorem zb_149_14 : ((zv_b149.drop 14).take 8).all (zchkb 149) = true := by decide +kernel
theorem zb_149 : zv_b149.all (zchkb 149) = true := by
  have e : zv_b149 = (zv_b149.drop 0).take 4 ++ ((zv_b149.drop 4).take 5 ++ ((zv_b149.drop 9).take 2 ++ ((zv_b149.drop 11).take 3 ++ ((zv_b149.drop 14).take 8)))) := rfl
  rw [e]
  simp only [List.all_append, zb_149_0, zb_149_4, zb_149_9, zb_149_11, zb_149_14, Bool.and_self]
end
section
/-! every block of every method is checked by the kernel -/
theorem zb_150_0 : ((zv_b150.drop 0).take 1).all (zchkb 150) = true := by decide +kernel
theorem zb_150 : zv_b150.all (zchkb 150) = true := by
  have e : zv_b150 = (zv_b150.drop 0).take 1 := rfl
  rw [e]
  simp only [List.all_append, zb_150_0, Bool.and_self]
theorem zb_151_0 : ((zv_b151.drop 0).take 3).all (zchkb 151) = true := by decide +kernel
theorem zb_151 : zv_b151.all (zchkb 151) = true := by
  have e : zv_b151 = (zv_b151.drop 0).take 3 := rfl
  rw [e]
  simp only [List.all_append, zb_151_0, Bool.and_self]
theorem zb_152_0 : ((zv_b152.drop 0).take 3).all (zchkb 152) = true := by decide +kernel
theorem zb_152 : zv_b152.all (zchkb 152) = true := by
  have e : zv_b152 = (zv_b152.drop 0).take 3 := rfl
  rw [e]
  simp only [List.all_append, zb_152_0, Bool.and_self]
theorem zb_153_0 : ((zv_b153.drop 0).take 5).all (zchkb 153) = true := by decide +kernel
theorem zb_153_5 : ((zv_b153.drop 5).take 2).all (zchkb 153) = true := by decide +kernel
theorem zb_153 : zv_b153.all (zchkb 153) = true := by
  have e : zv_b153 = (zv_b153.drop 0).take 5 ++ ((zv_b153.drop 5).take 2) := rfl
  rw [e]
  simp only [List.all_append, zb_153_0, zb_153_5, Bool.and_self]
theorem zb_154_0 : ((zv_b154.drop 0).take 3).all (zchkb 154) = true := by decide +kernel
theorem zb_154_3 : ((zv_b154.drop 3).take 3).all (zchkb 154) = true := by decide +kernel
theorem zb_154_6 : ((zv_b154.drop 6).take 2).all (zchkb 154) = true := by decide +kernel
theorem zb_154 : zv_b154.all (zchkb 154) = true := by
  have e : zv_b154 = (zv_b154.drop 0).take 3 ++ ((zv_b154.drop 3).take 3 ++ ((zv_b154.drop 6).take 2)) := rfl
  rw [e]
  simp only [List.all_append, zb_154_0, zb_154_3, zb_154_6, Bool.and_self]
theorem zb_155_0 : ((zv_b155.drop 0).take 3).all (zchkb 155) = true := by decide +kernel
theorem zb_155_3 : ((zv_b155.drop 3).take 6).all (zchkb 155) = true := by decide +kernel
theorem zb_155_9 : ((zv_b155.drop 9).take 4).all (zchkb 155) = true := by decide +kernel
theorem zb_155 : zv_b155.all (zchkb 155) = true := by
  have e : zv_b155 = (zv_b155.drop 0).take 3 ++ ((zv_b155.drop 3).take 6 ++ ((zv_b155.drop 9).take 4)) := rfl
  rw [e]
  simp only [List.all_append, zb_155_0, zb_155_3, zb_155_9, Bool.and_self]
theorem zb_156_0 : ((zv_b156.drop 0).take 4).all (zchkb 156) = true := by decide +kernel
theorem zb_156_4 : ((zv_b156.drop 4).take 6).all (zchkb 156) = true := by decide +kernel
theorem zb_156 : zv_b156.all (zchkb 156) = true := by
  have e : zv_b156 = (zv_b156.drop 0).take 4 ++ ((zv_b156.drop 4).take 6) := rfl
  rw [e]
  simp only [List.all_append, zb_156_0, zb_156_4, Bool.and_self]
theorem zb_157_0 : ((zv_b157.drop 0).take 4).all (zchkb 157) = true := by decide +kernel
theorem zb_157 : zv_b157.all (zchkb 157) = true := by
  have e : zv_b157 = (zv_b157.drop 0).take 4 := rfl
  rw [e]
  simp only [List.all_append, zb_157_0, Bool.and_self]
theorem zb_158_0 : ((zv_b158.drop 0).take 5).all (zchkb 158) = true := by decide +kernel
theorem zb_158 : zv_b158.all (zchkb 158) = true := by
  have e : zv_b158 = (zv_b158.drop 0).take 5 := rfl
  rw [e]
  simp only [List.all_append, zb_158_0, Bool.and_self]
theorem zb_159_0 : ((zv_b159.drop 0).take 1).all (zchkb 159) = true := by decide +kernel
theorem zb_159_1 : ((zv_b159.drop 1).take 1).all (zchkb 159) = true := by decide +kernel
theorem zb_159_2 : ((zv_b159.drop 2).take 5).all (zchkb 159) = true := by decide +kernel
theorem zb_159_7 : ((zv_b159.drop 7).take 1).all (zchkb 159) = true := by decide +kernel
theorem zb_159 : zv_b159.all (zchkb 159) = true := by
  have e : zv_b159 = (zv_b159.drop 0).take 1 ++ ((zv_b159.drop 1).take 1 ++ ((zv_b159.drop 2).take 5 ++ ((zv_b159.drop 7).take 1))) := rfl
  rw [e]
  simp only [List.all_append, zb_159_0, zb_159_1, zb_159_2, zb_159_7, Bool.and_self]
theorem zb_160_0 : ((zv_b160.drop 0).take 3).all (zchkb 160) = true := by decide +kernel
theorem zb_160_3 : ((zv_b160.drop 3).take 3).all (zchkb 160) = true := by decide +kernel
theorem zb_160_6 : ((zv_b160.drop 6).take 5).all (zchkb 160) = true := by decide +kernel
theorem zb_160_11 : ((zv_b160.drop 11).take 3).all (zchkb 160) = true := by decide +kernel
theorem zb_160 : zv_b160.all (zchkb 160) = true := by
  have e : zv_b160 = (zv_b160.drop 0).take 3 ++ ((zv_b160.drop 3).take 3 ++ ((zv_b160.drop 6).take 5 ++ ((zv_b160.drop 11).take 3))) := rfl
  rw [e]
  simp only [List.all_append, zb_160_0, zb_160_3, zb_160_6, zb_160_11, Bool.and_self]
theorem zb_161_0 : ((zv_b161.drop 0).take 3).all (zchkb 161) = true := by decide +kernel
theorem zb_161_3 : ((zv_b161.drop 3).take 3).all (zchkb 161) = true := by decide +kernel
theorem zb_161_6 : ((zv_b161.drop 6).take 1).all (zchkb 161) = true := by decide +kernel
theorem zb_161_7 : ((zv_b161.drop 7).take 3).all (zchkb 161) = true := by decide +kernel
theorem zb_161 : zv_b161.all (zchkb 161) = true := by
  have e : zv_b161 = (zv_b161.drop 0).take 3 ++ ((zv_b161.drop 3).take 3 ++ ((zv_b161.drop 6).take 1 ++ ((zv_b161.drop 7).take 3))) := rfl
  rw [e]
  simp only [List.all_append, zb_161_0, zb_161_3, zb_161_6, zb_161_7, Bool.and_self]
theorem zb_162_0 : ((zv_b162.drop 0).take 3).all (zchkb 162) = true := by decide +kernel
theorem zb_162 : zv_b162.all (zchkb 162) = true := by
  have e : zv_b162 = (zv_b162.drop 0).take 3 := rfl
  rw [e]
  simp only [List.all_append, zb_162_0, Bool.and_self]
theorem zb_163_0 : ((zv_b163.drop 0).take 3).all (zchkb 163) = true := by decide +kernel
theorem zb_163 : zv_b163.all (zchkb 163) = true := by
  have e : zv_b163 = (zv_b163.drop 0).take 3 := rfl
  rw [e]
  simp only [List.all_append, zb_163_0, Bool.and_self]
theorem zb_164_0 : ((zv_b164.drop 0).take 1).all (zchkb 164) = true := by decide +kernel
theorem zb_164_1 : ((zv_b164.drop 1).take 1).all (zchkb 164) = true := by decide +kernel
theorem zb_164_2 : ((zv_b164.drop 2).take 6).all (zchkb 164) = true := by decide +kernel
theorem zb_164 : zv_b164.all (zchkb 164) = true := by
  have e : zv_b164 = (zv_b164.drop 0).take 1 ++ ((zv_b164.drop 1).take 1 ++ ((zv_b164.drop 2).take 6)) := rfl
  rw [e]
  simp only [List.all_append, zb_164_0, zb_164_1, zb_164_2, Bool.and_self]
theorem zb_165_0 : ((zv_b165.drop 0).take 3).all (zchkb 165) = true := by decide +kernel
theorem zb_165 : zv_b165.all (zchkb 165) = true := by
  have e : zv_b165 = (zv_b165.drop 0).take 3 := rfl
  rw [e]
  simp only [List.all_append, zb_165_0, Bool.and_self]
theorem zb_166_0 : ((zv_b166.drop 0).take 5).all (zchkb 166) = true := by decide +kernel
theorem zb_166_5 : ((zv_b166.drop 5).take 3).all (zchkb 166) = true := by decide +kernel
theorem zb_166 : zv_b166.all (zchkb 166) = true := by
  have e : zv_b166 = (zv_b166.drop 0).take 5 ++ ((zv_b166.drop 5).take 3) := rfl
  rw [e]
  simp only [List.all_append, zb_166_0, zb_166_5, Bool.and_self]
theorem zb_167_0 : ((zv_b167.drop 0).take 3).all (zchkb 167) = true := by decide +kernel
theorem zb_167 : zv_b167.all (zchkb 167) = true := by
  have e : zv_b167 = (zv_b167.drop 0).take 3 := rfl
  rw [e]
  simp only [List.all_append, zb_167_0, Bool.and_self]
theorem zb_168_0 : ((zv_b168.drop 0).take 3).all (zchkb 168) = true := by decide +kernel
theorem zb_168_3 : ((zv_b168.drop 3).take 6).all (zchkb 168) = true := by decide +kernel
theorem zb_168 : zv_b168.all (zchkb 168) = true := by
  have e : zv_b168 = (zv_b168.drop 0).take 3 ++ ((zv_b168.drop 3).take 6) := rfl
  rw [e]
  simp only [List.all_append, zb_168_0, zb_168_3, Bool.and_self]
theorem zb_169_0 : ((zv_b169.drop 0).take 1).all (zchkb 169) = true := by decide +kernel
theorem zb_169_1 : ((zv_b169.drop 1).take 2).all (zchkb 169) = true := by decide +kernel
theorem zb_169_3 : ((zv_b169.drop 3).take 6).all (zchkb 169) = true := by decide +kernel
theorem zb_169 : zv_b169.all (zchkb 169) = true := by
  have e : zv_b169 = (zv_b169.drop 0).take 1 ++ ((zv_b169.drop 1).take 2 ++ ((zv_b169.drop 3).take 6)) := rfl
  rw [e]
  simp only [List.all_append, zb_169_0, zb_169_1, zb_169_3, Bool.and_self]
theorem zb_170_0 : ((zv_b170.drop 0).take 4).all (zchkb 170) = true := by decide +kernel
theorem zb_170_4 : ((zv_b170.drop 4).take 1).all (zchkb 170) = true := by decide +kernel
theorem zb_170 : zv_b170.all (zchkb 170) = true := by
  have e : zv_b170 = (zv_b170.drop 0).take 4 ++ ((zv_b170.drop 4).take 1) := rfl
  rw [e]
  simp only [List.all_append, zb_170_0, zb_170_4, Bool.and_self]
theorem zb_171_0 : ((zv_b171.drop 0).take 3).all (zchkb 171) = true := by decide +kernel
theorem zb_171 : zv_b171.all (zchkb 171) = true := by
  have e : zv_b171 = (zv_b171.drop 0).take 3 := rfl
  rw [e]
  simp only [List.all_append, zb_171_0, Bool.and_self]
theorem zb_172_0 : ((zv_b172.drop 0).take 3).all (zchkb 172) = true := by decide +kernel
theorem zb_172_3 : ((zv_b172.drop 3).take 2).all (zchkb 172) = true := by decide +kernel
theorem zb_172_5 : ((zv_b172.drop 5).take 2).all (zchkb 172) = true := by decide +kernel
theorem zb_172_7 : ((zv_b172.drop 7).take 2).all (zchkb 172) = true := by decide +kernel
theorem zb_172_9 : ((zv_b172.drop 9).take 2).all (zchkb 172) = true := by decide +kernel
theorem zb_172 : zv_b172.all (zchkb 172) = true := by
  have e : zv_b172 = (zv_b172.drop 0).take 3 ++ ((zv_b172.drop 3).take 2 ++ ((zv_b172.drop 5).take 2 ++ ((zv_b172.drop 7).take 2 ++ ((zv_b172.drop 9).take 2)))) := rfl
  rw [e]
  simp only [List.all_append, zb_172_0, zb_172_3, zb_172_5, zb_172_7, zb_172_9, Bool.and_self]
theorem zb_173_0 : ((zv_b173.drop 0).take 3).all (zchkb 173) = true := by decide +kernel
theorem zb_173_3 : ((zv_b173.drop 3).take 3).all (zchkb 173) = true := by decide +kernel
theorem zb_173_6 : ((zv_b173.drop 6).take 6).all (zchkb 173) = true := by decide +kernel
theorem zb_173 : zv_b173.all (zchkb 173) = true := by
  have e : zv_b173 = (zv_b173.drop 0).take 3 ++ ((zv_b173.drop 3).take 3 ++ ((zv_b173.drop 6).take 6)) := rfl
  rw [e]
  simp only [List.all_append, zb_173_0, zb_173_3, zb_173_6, Bool.and_self]
theorem zb_174_0 : ((zv_b174.drop 0).take 4).all (zchkb 174) = true := by decide +kernel
theorem zb_174_4 : ((zv_b174.drop 4).take 3).all (zchkb 174) = true := by decide +kernel
theorem zb_174_7 : ((zv_b174.drop 7).take 6).all (zchkb 174) = true := by decide +kernel
theorem zb_174 : zv_b174.all (zchkb 174) = true := by
  have e : zv_b174 = (zv_b174.drop 0).take 4 ++ ((zv_b174.drop 4).take 3 ++ ((zv_b174.drop 7).take 6)) := rfl
  rw [e]
  simp only [List.all_append, zb_174_0, zb_174_4, zb_174_7, Bool.and_self]
theorem zb_175_0 : ((zv_b175.drop 0).take 5).all (zchkb 175) = true := by decide +kernel
theorem zb_175_5 : ((zv_b175.drop 5).take 2).all (zchkb 175) = true := by decide +kernel
theorem zb_175 : zv_b175.all (zchkb 175) = true := by
  have e : zv_b175 = (zv_b175.drop 0).take 5 ++ ((zv_b175.drop 5).take 2) := rfl
  rw [e]
  simp only [List.all_append, zb_175_0, zb_175_5, Bool.and_self]
theorem zb_176_0 : ((zv_b176.drop 0).take 1).all (zchkb 176) = true := by decide +kernel
theorem zb_176 : zv_b176.all (zchkb 176) = true := by
  have e : zv_b176 = (zv_b176.drop 0).take 1 := rfl
  rw [e]
  simp only [List.all_append, zb_176_0, Bool.and_self]
theorem zb_177_0 : ((zv_b177.drop 0).take 3).all (zchkb 177) = true := by decide +kernel
theorem zb_177 : zv_b177.all (zchkb 177) = true := by
  have e : zv_b177 = (zv_b177.drop 0).take 3 := rfl
  rw [e]
  simp only [List.all_append, zb_177_0, Bool.and_self]
theorem zb_178_0 : ((zv_b178.drop 0).take 4).all (zchkb 178) = true := by decide +kernel
theorem zb_178_4 : ((zv_b178.drop 4).take 5).all (zchkb 178) = true := by decide +kernel
theorem zb_178_9 : ((zv_b178.drop 9).take 6).all (zchkb 178) = true := by decide +kernel
theorem zb_178_15 : ((zv_b178.drop 15).take 6).all (zchkb 178) = true := by decide +kernel
theorem zb_178_21 : ((zv_b178.drop 21).take 5).all (zchkb 178) = true := by decide +kernel
theorem zb_178_26 : ((zv_b178.drop 26).take 3).all (zchkb 178) = true := by decide +kernel
theorem zb_178 : zv_b178.all (zchkb 178) = true := by
  have e : zv_b178 = (zv_b178.drop 0).take 4 ++ ((zv_b178.drop 4).take 5 ++ ((zv_b178.drop 9).take 6 ++ ((zv_b178.drop 15).take 6 ++ ((zv_b178.drop 21).take 5 ++ ((zv_b178.drop 26).take 3))))) := rfl
  rw [e]
  simp only [List.all_append, zb_178_0, zb_178_4, zb_178_9, zb_178_15, zb_178_21, zb_178_26, Bool.and_self]
theorem zb_179_0 : ((zv_b179.drop 0).take 3).all (zchkb 179) = true := by decide +kernel
theorem zb_179 : zv_b179.all (zchkb 179) = true := by
  have e : zv_b179 = (zv_b179.drop 0).take 3 := rfl
  rw [e]
  simp only [List.all_append, zb_179_0, Bool.and_self]
theorem zb_180_0 : ((zv_b180.drop 0).take 4).all (zchkb 180) = true := by decide +kernel
theorem zb_180_4 : ((zv_b180.drop 4).take 2).all (zchkb 180) = true := by decide +kernel
theorem zb_180_6 : ((zv_b180.drop 6).take 1).all (zchkb 180) = true := by decide +kernel
theorem zb_180 : zv_b180.all (zchkb 180) = true := by
  have e : zv_b180 = (zv_b180.drop 0).take 4 ++ ((zv_b180.drop 4).take 2 ++ ((zv_b180.drop 6).take 1)) := rfl
  rw [e]
  simp only [List.all_append, zb_180_0, zb_180_4, zb_180_6, Bool.and_self]
theorem zb_181_0 : ((zv_b181.drop 0).take 3).all (zchkb 181) = true := by decide +kernel
theorem zb_181_3 : ((zv_b181.drop 3).take 3).all (zchkb 181) = true := by decide +kernel
theorem zb_181_6 : ((zv_b181.drop 6).take 6).all (zchkb 181) = true := by decide +kernel
theorem zb_181 : zv_b181.all (zchkb 181) = true := by
  have e : zv_b181 = (zv_b181.drop 0).take 3 ++ ((zv_b181.drop 3).take 3 ++ ((zv_b181.drop 6).take 6)) := rfl
  rw [e]
  simp only [List.all_append, zb_181_0, zb_181_3, zb_181_6, Bool.and_self]
theorem zb_182_0 : ((zv_b182.drop 0).take 1).all (zchkb 182) = true := by decide +kernel
theorem zb_182 : zv_b182.all (zchkb 182) = true := by
  have e : zv_b182 = (zv_b182.drop 0).take 1 := rfl
  rw [e]
  simp only [List.all_append, zb_182_0, Bool.and_self]
end
section
/-! every block of every method is checked by the kernel -/
theorem zb_183_0 : ((zv_b183.drop 0).take 4).all (zchkb 183) = true := by decide +kernel
theorem zb_183_4 : ((zv_b183.drop 4).take 5).all (zchkb 183) = true := by decide +kernel
theorem zb_183_9 : ((zv_b183.drop 9).take 5).all (zchkb 183) = true := by decide +kernel
theorem zb_183 : zv_b183.all (zchkb 183) = true := by
  have e : zv_b183 = (zv_b183.drop 0).take 4 ++ ((zv_b183.drop 4).take 5 ++ ((zv_b183.drop 9).take 5)) := rfl
  rw [e]
  simp only [List.all_append, zb_183_0, zb_183_4, zb_183_9, Bool.and_self]
theorem zb_184_0 : ((zv_b184.drop 0).take 3).all (zchkb 184) = true := by decide +kernel
theorem zb_184_3 : ((zv_b184.drop 3).take 3).all (zchkb 184) = true := by decide +kernel
theorem zb_184_6 : ((zv_b184.drop 6).take 4).all (zchkb 184) = true := by decide +kernel
theorem zb_184 : zv_b184.all (zchkb 184) = true := by
  have e : zv_b184 = (zv_b184.drop 0).take 3 ++ ((zv_b184.drop 3).take 3 ++ ((zv_b184.drop 6).take 4)) := rfl
  rw [e]
  simp only [List.all_append, zb_184_0, zb_184_3, zb_184_6, Bool.and_self]
theorem zb_185_0 : ((zv_b185.drop 0).take 1).all (zchkb 185) = true := by decide +kernel
theorem zb_185 : zv_b185.all (zchkb 185) = true := by
  have e : zv_b185 = (zv_b185.drop 0).take 1 := rfl
  rw [e]
  simp only [List.all_append, zb_185_0, Bool.and_self]
theorem zb_186_0 : ((zv_b186.drop 0).take 3).all (zchkb 186) = true := by decide +kernel
theorem zb_186_3 : ((zv_b186.drop 3).take 4).all (zchkb 186) = true := by decide +kernel
theorem zb_186 : zv_b186.all (zchkb 186) = true := by
  have e : zv_b186 = (zv_b186.drop 0).take 3 ++ ((zv_b186.drop 3).take 4) := rfl
  rw [e]
  simp only [List.all_append, zb_186_0, zb_186_3, Bool.and_self]
theorem zb_187_0 : ((zv_b187.drop 0).take 2).all (zchkb 187) = true := by decide +kernel
theorem zb_187_2 : ((zv_b187.drop 2).take 1).all (zchkb 187) = true := by decide +kernel
theorem zb_187 : zv_b187.all (zchkb 187) = true := by
  have e : zv_b187 = (zv_b187.drop 0).take 2 ++ ((zv_b187.drop 2).take 1) := rfl
  rw [e]
  simp only [List.all_append, zb_187_0, zb_187_2, Bool.and_self]
theorem zb_188_0 : ((zv_b188.drop 0).take 2).all (zchkb 188) = true := by decide +kernel
theorem zb_188_2 : ((zv_b188.drop 2).take 1).all (zchkb 188) = true := by decide +kernel
theorem zb_188 : zv_b188.all (zchkb 188) = true := by
  have e : zv_b188 = (zv_b188.drop 0).take 2 ++ ((zv_b188.drop 2).take 1) := rfl
  rw [e]
  simp only [List.all_append, zb_188_0, zb_188_2, Bool.and_self]
theorem zb_189_0 : ((zv_b189.drop 0).take 5).all (zchkb 189) = true := by decide +kernel
theorem zb_189_5 : ((zv_b189.drop 5).take 2).all (zchkb 189) = true := by decide +kernel
theorem zb_189 : zv_b189.all (zchkb 189) = true := by
  have e : zv_b189 = (zv_b189.drop 0).take 5 ++ ((zv_b189.drop 5).take 2) := rfl
  rw [e]
  simp only [List.all_append, zb_189_0, zb_189_5, Bool.and_self]
theorem zb_190_0 : ((zv_b190.drop 0).take 2).all (zchkb 190) = true := by decide +kernel
theorem zb_190_2 : ((zv_b190.drop 2).take 7).all (zchkb 190) = true := by decide +kernel
theorem zb_190_9 : ((zv_b190.drop 9).take 3).all (zchkb 190) = true := by decide +kernel
theorem zb_190_12 : ((zv_b190.drop 12).take 1).all (zchkb 190) = true := by decide +kernel
theorem zb_190 : zv_b190.all (zchkb 190) = true := by
  have e : zv_b190 = (zv_b190.drop 0).take 2 ++ ((zv_b190.drop 2).take 7 ++ ((zv_b190.drop 9).take 3 ++ ((zv_b190.drop 12).take 1))) := rfl
  rw [e]
  simp only [List.all_append, zb_190_0, zb_190_2, zb_190_9, zb_190_12, Bool.and_self]
theorem zb_191_0 : ((zv_b191.drop 0).take 4).all (zchkb 191) = true := by decide +kernel
theorem zb_191_4 : ((zv_b191.drop 4).take 1).all (zchkb 191) = true := by decide +kernel
theorem zb_191_5 : ((zv_b191.drop 5).take 3).all (zchkb 191) = true := by decide +kernel
theorem zb_191 : zv_b191.all (zchkb 191) = true := by
  have e : zv_b191 = (zv_b191.drop 0).take 4 ++ ((zv_b191.drop 4).take 1 ++ ((zv_b191.drop 5).take 3)) := rfl
  rw [e]
  simp only [List.all_append, zb_191_0, zb_191_4, zb_191_5, Bool.and_self]
theorem zb_192_0 : ((zv_b192.drop 0).take 4).all (zchkb 192) = true := by decide +kernel
theorem zb_192_4 : ((zv_b192.drop 4).take 3).all (zchkb 192) = true := by decide +kernel
theorem zb_192 : zv_b192.all (zchkb 192) = true := by
  have e : zv_b192 = (zv_b192.drop 0).take 4 ++ ((zv_b192.drop 4).take 3) := rfl
  rw [e]
  simp only [List.all_append, zb_192_0, zb_192_4, Bool.and_self]
theorem zb_193_0 : ((zv_b193.drop 0).take 6).all (zchkb 193) = true := by decide +kernel
theorem zb_193 : zv_b193.all (zchkb 193) = true := by
  have e : zv_b193 = (zv_b193.drop 0).take 6 := rfl
  rw [e]
  simp only [List.all_append, zb_193_0, Bool.and_self]
theorem zb_194_0 : ((zv_b194.drop 0).take 9).all (zchkb 194) = true := by decide +kernel
theorem zb_194_9 : ((zv_b194.drop 9).take 4).all (zchkb 194) = true := by decide +kernel
theorem zb_194_13 : ((zv_b194.drop 13).take 3).all (zchkb 194) = true := by decide +kernel
theorem zb_194 : zv_b194.all (zchkb 194) = true := by
  have e : zv_b194 = (zv_b194.drop 0).take 9 ++ ((zv_b194.drop 9).take 4 ++ ((zv_b194.drop 13).take 3)) := rfl
  rw [e]
  simp only [List.all_append, zb_194_0, zb_194_9, zb_194_13, Bool.and_self]
theorem zb_195_0 : ((zv_b195.drop 0).take 2).all (zchkb 195) = true := by decide +kernel
theorem zb_195 : zv_b195.all (zchkb 195) = true := by
  have e : zv_b195 = (zv_b195.drop 0).take 2 := rfl
  rw [e]
  simp only [List.all_append, zb_195_0, Bool.and_self]
theorem zb_196_0 : ((zv_b196.drop 0).take 3).all (zchkb 196) = true := by decide +kernel
theorem zb_196 : zv_b196.all (zchkb 196) = true := by
  have e : zv_b196 = (zv_b196.drop 0).take 3 := rfl
  rw [e]
  simp only [List.all_append, zb_196_0, Bool.and_self]
theorem zb_197_0 : ((zv_b197.drop 0).take 3).all (zchkb 197) = true := by decide +kernel
theorem zb_197 : zv_b197.all (zchkb 197) = true := by
  have e : zv_b197 = (zv_b197.drop 0).take 3 := rfl
  rw [e]
  simp only [List.all_append, zb_197_0, Bool.and_self]
theorem zb_198_0 : ((zv_b198.drop 0).take 3).all (zchkb 198) = true := by decide +kernel
theorem zb_198 : zv_b198.all (zchkb 198) = true := by
  have e : zv_b198 = (zv_b198.drop 0).take 3 := rfl
  rw [e]
  simp only [List.all_append, zb_198_0, Bool.and_self]
theorem zb_199_0 : ((zv_b199.drop 0).take 3).all (zchkb 199) = true := by decide +kernel
theorem zb_199 : zv_b199.all (zchkb 199) = true := by
  have e : zv_b199 = (zv_b199.drop 0).take 3 := rfl
  rw [e]
  simp only [List.all_append, zb_199_0, Bool.and_self]
theorem zb_200_0 : ((zv_b200.drop 0).take 3).all (zchkb 200) = true := by decide +kernel
theorem zb_200 : zv_b200.all (zchkb 200) = true := by
  have e : zv_b200 = (zv_b200.drop 0).take 3 := rfl
  rw [e]
  simp only [List.all_append, zb_200_0, Bool.and_self]
theorem zb_201_0 : ((zv_b201.drop 0).take 1).all (zchkb 201) = true := by decide +kernel
theorem zb_201 : zv_b201.all (zchkb 201) = true := by
  have e : zv_b201 = (zv_b201.drop 0).take 1 := rfl
  rw [e]
  simp only [List.all_append, zb_201_0, Bool.and_self]
theorem zb_202_0 : ((zv_b202.drop 0).take 2).all (zchkb 202) = true := by decide +kernel
theorem zb_202 : zv_b202.all (zchkb 202) = true := by
  have e : zv_b202 = (zv_b202.drop 0).take 2 := rfl
  rw [e]
  simp only [List.all_append, zb_202_0, Bool.and_self]
theorem zb_203_0 : ((zv_b203.drop 0).take 3).all (zchkb 203) = true := by decide +kernel
theorem zb_203 : zv_b203.all (zchkb 203) = true := by
  have e : zv_b203 = (zv_b203.drop 0).take 3 := rfl
  rw [e]
  simp only [List.all_append, zb_203_0, Bool.and_self]
theorem zb_204_0 : ((zv_b204.drop 0).take 3).all (zchkb 204) = true := by decide +kernel
theorem zb_204 : zv_b204.all (zchkb 204) = true := by
  have e : zv_b204 = (zv_b204.drop 0).take 3 := rfl
  rw [e]
  simp only [List.all_append, zb_204_0, Bool.and_self]
theorem zb_205_0 : ((zv_b205.drop 0).take 1).all (zchkb 205) = true := by decide +kernel
theorem zb_205 : zv_b205.all (zchkb 205) = true := by
  have e : zv_b205 = (zv_b205.drop 0).take 1 := rfl
  rw [e]
  simp only [List.all_append, zb_205_0, Bool.and_self]
theorem zb_206_0 : ((zv_b206.drop 0).take 1).all (zchkb 206) = true := by decide +kernel
theorem zb_206 : zv_b206.all (zchkb 206) = true := by
  have e : zv_b206 = (zv_b206.drop 0).take 1 := rfl
  rw [e]
  simp only [List.all_append, zb_206_0, Bool.and_self]
theorem zb_207_0 : ((zv_b207.drop 0).take 3).all (zchkb 207) = true := by decide +kernel
theorem zb_207 : zv_b207.all (zchkb 207) = true := by
  have e : zv_b207 = (zv_b207.drop 0).take 3 := rfl
  rw [e]
  simp only [List.all_append, zb_207_0, Bool.and_self]
theorem zb_208_0 : ((zv_b208.drop 0).take 3).all (zchkb 208) = true := by decide +kernel
theorem zb_208 : zv_b208.all (zchkb 208) = true := by
  have e : zv_b208 = (zv_b208.drop 0).take 3 := rfl
  rw [e]
  simp only [List.all_append, zb_208_0, Bool.and_self]
theorem zb_209_0 : ((zv_b209.drop 0).take 2).all (zchkb 209) = true := by decide +kernel
theorem zb_209_2 : ((zv_b209.drop 2).take 1).all (zchkb 209) = true := by decide +kernel
theorem zb_209_3 : ((zv_b209.drop 3).take 2).all (zchkb 209) = true := by decide +kernel
theorem zb_209_5 : ((zv_b209.drop 5).take 1).all (zchkb 209) = true := by decide +kernel
theorem zb_209_6 : ((zv_b209.drop 6).take 1).all (zchkb 209) = true := by decide +kernel
theorem zb_209_7 : ((zv_b209.drop 7).take 2).all (zchkb 209) = true := by decide +kernel
theorem zb_209_9 : ((zv_b209.drop 9).take 6).all (zchkb 209) = true := by decide +kernel
theorem zb_209_15 : ((zv_b209.drop 15).take 2).all (zchkb 209) = true := by decide +kernel
theorem zb_209_17 : ((zv_b209.drop 17).take 1).all (zchkb 209) = true := by decide +kernel
theorem zb_209_18 : ((zv_b209.drop 18).take 1).all (zchkb 209) = true := by decide +kernel
theorem zb_209_19 : ((zv_b209.drop 19).take 1).all (zchkb 209) = true := by decide +kernel
theorem zb_209_20 : ((zv_b209.drop 20).take 1).all (zchkb 209) = true := by decide +kernel
theorem zb_209_21 : ((zv_b209.drop 21).take 1).all (zchkb 209) = true := by decide +kernel
theorem zb_209_22 : ((zv_b209.drop 22).take 1).all (zchkb 209) = true := by decide +kernel
theorem zb_209_23 : ((zv_b209.drop 23).take 1).all (zchkb 209) = true := by decide +kernel
theorem zb_209_24 : ((zv_b209.drop 24).take 2).all (zchkb 209) = true := by decide +kernel
theorem zb_209_26 : ((zv_b209.drop 26).take 2).all (zchkb 209) = true := by decide +kernel
theorem zb_209_28 : ((zv_b209.drop 28).take 3).all (zchkb 209) = true := by decide +kernel
theorem zb_209_31 : ((zv_b209.drop 31).take 4).all (zchkb 209) = true := by decide +kernel
theorem zb_209_35 : ((zv_b209.drop 35).take 4).all (zchkb 209) = true := by decide +kernel
theorem zb_209_39 : ((zv_b209.drop 39).take 1).all (zchkb 209) = true := by decide +kernel
theorem zb_209_40 : ((zv_b209.drop 40).take 1).all (zchkb 209) = true := by decide +kernel
theorem zb_209_41 : ((zv_b209.drop 41).take 2).all (zchkb 209) = true := by decide +kernel
theorem zb_209_43 : ((zv_b209.drop 43).take 5).all (zchkb 209) = true := by decide +kernel
theorem zb_209_48 : ((zv_b209.drop 48).take 3).all (zchkb 209) = true := by decide +kernel
theorem zb_209 : zv_b209.all (zchkb 209) = true := by
  have e : zv_b209 = (zv_b209.drop 0).take 2 ++ ((zv_b209.drop 2).take 1 ++ ((zv_b209.drop 3).take 2 ++ ((zv_b209.drop 5).take 1 ++ ((zv_b209.drop 6).take 1 ++ ((zv_b209.drop 7).take 2 ++ ((zv_b209.drop 9).take 6 ++ ((zv_b209.drop 15).take 2 ++ ((zv_b209.drop 17).take 1 ++ ((zv_b209.drop 18).take 1 ++ ((zv_b209.drop 19).take 1 ++ ((zv_b209.drop 20).take 1 ++ ((zv_b209.drop 21).take 1 ++ ((zv_b209.drop 22).take 1 ++ ((zv_b209.drop 23).take 1 ++ ((zv_b209.drop 24).take 2 ++ ((zv_b209.drop 26).take 2 ++ ((zv_b209.drop 28).take 3 ++ ((zv_b209.drop 31).take 4 ++ ((zv_b209.drop 35).take 4 ++ ((zv_b209.drop 39).take 1 ++ ((zv_b209.drop 40).take 1 ++ ((zv_b209.drop 41).take 2 ++ ((zv_b209.drop 43).take 5 ++ ((zv_b209.drop 48).take 3)))))))))))))))))))))))) := rfl
  rw [e]
  simp only [List.all_append, zb_209_0, zb_209_2, zb_209_3, zb_209_5, zb_209_6, zb_209_7, zb_209_9, zb_209_15, zb_209_17, zb_209_18, zb_209_19, zb_209_20, zb_209_21, zb_209_22, zb_209_23, zb_209_24, zb_209_26, zb_209_28, zb_209_31, zb_209_35, zb_209_39, zb_209_40, zb_209_41, zb_209_43, zb_209_48, Bool.and_self]
end
section
theorem zb_all : ∀ m, m < 210 → ∀ l b, zv_blk m l = some b → zchkb m (l, b) = true := by
  intro m hm l b h
  have key : ∀ (bs : List (Nat × List Bool × List zv_I)), bs.all (zchkb m) = true → zv_fnd l bs = some b → zchkb m (l, b) = true := by
    intro bs
    induction bs with
    | nil => intro _ h9; cases h9
    | cons q r ih =>
      intro h8 h9
      rw [List.all_cons] at h8
      obtain ⟨a1, a2⟩ := zand h8
      unfold zv_fnd at h9
      split at h9
      · rename_i e9
        cases h9
        subst e9
        exact a1
      · exact ih a2 h9
  unfold zv_blk at h
  match m, hm with
  | 0, _ => exact key _ zb_0 h
  | 1, _ => exact key _ zb_1 h
  | 2, _ => exact key _ zb_2 h
  | 3, _ => exact key _ zb_3 h
  | 4, _ => exact key _ zb_4 h
  | 5, _ => exact key _ zb_5 h
  | 6, _ => exact key _ zb_6 h
  | 7, _ => exact key _ zb_7 h
  | 8, _ => exact key _ zb_8 h
  | 9, _ => exact key _ zb_9 h
  | 10, _ => exact key _ zb_10 h
  | 11, _ => exact key _ zb_11 h
  | 12, _ => exact key _ zb_12 h
  | 13, _ => exact key _ zb_13 h
  | 14, _ => exact key _ zb_14 h
  | 15, _ => exact key _ zb_15 h
  | 16, _ => exact key _ zb_16 h
  | 17, _ => exact key _ zb_17 h
  | 18, _ => exact key _ zb_18 h
  | 19, _ => exact key _ zb_19 h
  | 20, _ => exact key _ zb_20 h
  | 21, _ => exact key _ zb_21 h
  | 22, _ => exact key _ zb_22 h
  | 23, _ => exact key _ zb_23 h
  | 24, _ => exact key _ zb_24 h
  | 25, _ => exact key _ zb_25 h
  | 26, _ => exact key _ zb_26 h
  | 27, _ => exact key _ zb_27 h
  | 28, _ => exact key _ zb_28 h
  | 29, _ => exact key _ zb_29 h
  | 30, _ => exact key _ zb_30 h
  | 31, _ => exact key _ zb_31 h
  | 32, _ => exact key _ zb_32 h
  | 33, _ => exact key _ zb_33 h
  | 34, _ => exact key _ zb_34 h
  | 35, _ => exact key _ zb_35 h
  | 36, _ => exact key _ zb_36 h
  | 37, _ => exact key _ zb_37 h
  | 38, _ => exact key _ zb_38 h
  | 39, _ => exact key _ zb_39 h
  | 40, _ => exact key _ zb_40 h
  | 41, _ => exact key _ zb_41 h
  | 42, _ => exact key _ zb_42 h
  | 43, _ => exact key _ zb_43 h
  | 44, _ => exact key _ zb_44 h
  | 45, _ => exact key _ zb_45 h
  | 46, _ => exact key _ zb_46 h
  | 47, _ => exact key _ zb_47 h
  | 48, _ => exact key _ zb_48 h
  | 49, _ => exact key _ zb_49 h
  | 50, _ => exact key _ zb_50 h
  | 51, _ => exact key _ zb_51 h
  | 52, _ => exact key _ zb_52 h
  | 53, _ => exact key _ zb_53 h
  | 54, _ => exact key _ zb_54 h
  | 55, _ => exact key _ zb_55 h
  | 56, _ => exact key _ zb_56 h
  | 57, _ => exact key _ zb_57 h
  | 58, _ => exact key _ zb_58 h
  | 59, _ => exact key _ zb_59 h
  | 60, _ => exact key _ zb_60 h
  | 61, _ => exact key _ zb_61 h
  | 62, _ => exact key _ zb_62 h
  | 63, _ => exact key _ zb_63 h
  | 64, _ => exact key _ zb_64 h
  | 65, _ => exact key _ zb_65 h
  | 66, _ => exact key _ zb_66 h
  | 67, _ => exact key _ zb_67 h
  | 68, _ => exact key _ zb_68 h
  | 69, _ => exact key _ zb_69 h
  | 70, _ => exact key _ zb_70 h
  | 71, _ => exact key _ zb_71 h
  | 72, _ => exact key _ zb_72 h
  | 73, _ => exact key _ zb_73 h
  | 74, _ => exact key _ zb_74 h
  | 75, _ => exact key _ zb_75 h
  | 76, _ => exact key _ zb_76 h
  | 77, _ => exact key _ zb_77 h
  | 78, _ => exact key _ zb_78 h
  | 79, _ => exact key _ zb_79 h
  | 80, _ => exact key _ zb_80 h
  | 81, _ => exact key _ zb_81 h
  | 82, _ => exact key _ zb_82 h
  | 83, _ => exact key _ zb_83 h
  | 84, _ => exact key _ zb_84 h
  | 85, _ => exact key _ zb_85 h
  | 86, _ => exact key _ zb_86 h
  | 87, _ => exact key _ zb_87 h
  | 88, _ => exact key _ zb_88 h
  | 89, _ => exact key _ zb_89 h
  | 90, _ => exact key _ zb_90 h
  | 91, _ => exact key _ zb_91 h
  | 92, _ => exact key _ zb_92 h
  | 93, _ => exact key _ zb_93 h
  | 94, _ => exact key _ zb_94 h
  | 95, _ => exact key _ zb_95 h
  | 96, _ => exact key _ zb_96 h
  | 97, _ => exact key _ zb_97 h
  | 98, _ => exact key _ zb_98 h
  | 99, _ => exact key _ zb_99 h
  | 100, _ => exact key _ zb_100 h
  | 101, _ => exact key _ zb_101 h
  | 102, _ => exact key _ zb_102 h
  | 103, _ => exact key _ zb_103 h
  | 104, _ => exact key _ zb_104 h
  | 105, _ => exact key _ zb_105 h
  | 106, _ => exact key _ zb_106 h
  | 107, _ => exact key _ zb_107 h
  | 108, _ => exact key _ zb_108 h
  | 109, _ => exact key _ zb_109 h
  | 110, _ => exact key _ zb_110 h
  | 111, _ => exact key _ zb_111 h
  | 112, _ => exact key _ zb_112 h
  | 113, _ => exact key _ zb_113 h
  | 114, _ => exact key _ zb_114 h
  | 115, _ => exact key _ zb_115 h
  | 116, _ => exact key _ zb_116 h
  | 117, _ => exact key _ zb_117 h
  | 118, _ => exact key _ zb_118 h
  | 119, _ => exact key _ zb_119 h
  | 120, _ => exact key _ zb_120 h
  | 121, _ => exact key _ zb_121 h
  | 122, _ => exact key _ zb_122 h
  | 123, _ => exact key _ zb_123 h
  | 124, _ => exact key _ zb_124 h
  | 125, _ => exact key _ zb_125 h
  | 126, _ => exact key _ zb_126 h
  | 127, _ => exact key _ zb_127 h
  | 128, _ => exact key _ zb_128 h
  | 129, _ => exact key _ zb_129 h
  | 130, _ => exact key _ zb_130 h
  | 131, _ => exact key _ zb_131 h
  | 132, _ => exact key _ zb_132 h
  | 133, _ => exact key _ zb_133 h
  | 134, _ => exact key _ zb_134 h
  | 135, _ => exact key _ zb_135 h
  | 136, _ => exact key _ zb_136 h
  | 137, _ => exact key _ zb_137 h
  | 138, _ => exact key _ zb_138 h
  | 139, _ => exact key _ zb_139 h
  | 140, _ => exact key _ zb_140 h
  | 141, _ => exact key _ zb_141 h
  | 142, _ => exact key _ zb_142 h
  | 143, _ => exact key _ zb_143 h
  | 144, _ => exact key _ zb_144 h
  | 145, _ => exact key _ zb_145 h
  | 146, _ => exact key _ zb_146 h
  | 147, _ => exact key _ zb_147 h
  | 148, _ => exact key _ zb_148 h
  | 149, _ => exact key _ zb_149 h
  | 150, _ => exact key _ zb_150 h
  | 151, _ => exact key _ zb_151 h
  | 152, _ => exact key _ zb_152 h
  | 153, _ => exact key _ zb_153 h
  | 154, _ => exact key _ zb_154 h
  | 155, _ => exact key _ zb_155 h
  | 156, _ => exact key _ zb_156 h
  | 157, _ => exact key _ zb_157 h
  | 158, _ => exact key _ zb_158 h
  | 159, _ => exact key _ zb_159 h
  | 160, _ => exact key _ zb_160 h
  | 161, _ => exact key _ zb_161 h
  | 162, _ => exact key _ zb_162 h
  | 163, _ => exact key _ zb_163 h
  | 164, _ => exact key _ zb_164 h
  | 165, _ => exact key _ zb_165 h
  | 166, _ => exact key _ zb_166 h
  | 167, _ => exact key _ zb_167 h
  | 168, _ => exact key _ zb_168 h
  | 169, _ => exact key _ zb_169 h
  | 170, _ => exact key _ zb_170 h
  | 171, _ => exact key _ zb_171 h
  | 172, _ => exact key _ zb_172 h
  | 173, _ => exact key _ zb_173 h
  | 174, _ => exact key _ zb_174 h
  | 175, _ => exact key _ zb_175 h
  | 176, _ => exact key _ zb_176 h
  | 177, _ => exact key _ zb_177 h
  | 178, _ => exact key _ zb_178 h
  | 179, _ => exact key _ zb_179 h
  | 180, _ => exact key _ zb_180 h
  | 181, _ => exact key _ zb_181 h
  | 182, _ => exact key _ zb_182 h
  | 183, _ => exact key _ zb_183 h
  | 184, _ => exact key _ zb_184 h
  | 185, _ => exact key _ zb_185 h
  | 186, _ => exact key _ zb_186 h
  | 187, _ => exact key _ zb_187 h
  | 188, _ => exact key _ zb_188 h
  | 189, _ => exact key _ zb_189 h
  | 190, _ => exact key _ zb_190 h
  | 191, _ => exact key _ zb_191 h
  | 192, _ => exact key _ zb_192 h
  | 193, _ => exact key _ zb_193 h
  | 194, _ => exact key _ zb_194 h
  | 195, _ => exact key _ zb_195 h
  | 196, _ => exact key _ zb_196 h
  | 197, _ => exact key _ zb_197 h
  | 198, _ => exact key _ zb_198 h
  | 199, _ => exact key _ zb_199 h
  | 200, _ => exact key _ zb_200 h
  | 201, _ => exact key _ zb_201 h
  | 202, _ => exact key _ zb_202 h
  | 203, _ => exact key _ zb_203 h
  | 204, _ => exact key _ zb_204 h
  | 205, _ => exact key _ zb_205 h
  | 206, _ => exact key _ zb_206 h
  | 207, _ => exact key _ zb_207 h
  | 208, _ => exact key _ zb_208 h
  | 209, _ => exact key _ zb_209 h
  | m + 210, hm => exact absurd hm (by omega)
end
section
theorem zflt_at {s0 : Nat} {ov : Nat → Value} (ho : ∀ i, (ov i).category = 1) : ∀ (as : List Value) (i j : Nat) (v : Value), (zv_flt as)[j]? = some (some v) → (i + j, zc s0 ov v) ∈ lv_args i (as.map (zc s0 ov))
  | [], _, _, _, h => by cases h
  | w :: r, i, j, v, h => by
    rw [List.map_cons]
    unfold lv_args
    unfold zv_flt at h
    by_cases hc : w.category = 2
    · rw [if_pos hc] at h
      rw [if_pos (by rw [zc_cat ho]; exact hc)]
      match j, h with
      | 0, h =>
        cases h
        exact List.mem_cons_self
      | 1, h => cases h
      | j + 2, h =>
        have := zflt_at (s0 := s0) ho r (i + 2) j v h
        rw [show i + (j + 2) = i + 2 + j by omega]
        exact List.mem_cons_of_mem _ this
    · rw [if_neg hc] at h
      rw [if_neg (by rw [zc_cat ho]; exact hc)]
      match j, h with
      | 0, h =>
        cases h
        exact List.mem_cons_self
      | j + 1, h =>
        have := zflt_at (s0 := s0) ho r (i + 1) j v h
        rw [show i + (j + 1) = i + 1 + j by omega]
        exact List.mem_cons_of_mem _ this
theorem zflt_len {s0 : Nat} {ov : Nat → Value} (ho : ∀ i, (ov i).category = 1) : ∀ as : List Value, (lg_sl (as.map (zc s0 ov))).length = (zv_flt as).length
  | [] => rfl
  | w :: r => by
    have ih := zflt_len (s0 := s0) ho r
    unfold zv_flt
    have e : lg_sl ((w :: r).map (zc s0 ov)) = (if (zc s0 ov w).category = 2 then [.val (zc s0 ov w), .second] else [.val (zc s0 ov w)]) ++ lg_sl (r.map (zc s0 ov)) := rfl
    rw [e, zc_cat ho]
    by_cases hc : w.category = 2
    · rw [if_pos hc, if_pos hc]
      simp [ih]
    · rw [if_neg hc, if_neg hc]
      simp [ih]
theorem Met_ofW {l : Launch} {y : MethodName} {ws ws' : List Cond} {rm : Room} {Pc : Array Value → State → Prop} {Qc : Array Value → State → Outcome → State → Prop} {mc ms : Nat} {free : Addr → Prop} {cc : ByteArray} {maxL : Nat} {ret : Option FieldType} (hy : plainFor y = true) (hw : ws = Cond.code y cc maxL ret :: ws')
    (body : ∀ p e s m args below meth c s₁, BodyLoose p l y (headSpec ws rm) cc maxL ret e s m args below meth c s₁ → c.maxLocals = maxL → Pc args s → W p l e (headSpec ws rm).room s m args below meth c s.heap [] 0 0 (MQ below Qc args s mc ms free) (entryFrame m args maxL)) : Met l y ws rm Pc Qc mc ms free := by
  refine MetFree.of_bodySF (code := cc) (maxLocals := maxL) (ret := ret) hy ?_ ?_
  · intro args s m h hn
    obtain ⟨meth, c, h1, h2, h3, h4, h5, h6, -, -⟩ := Cond.code_spec hn (atoms_spec (ws := ws) h _ (by rw [hw]; exact List.mem_cons_self))
    exact ⟨meth, c, h1, h2, h3, h4, h5, h6⟩
  · intro p e s m args below meth c s₁ B hml hP _
    have hh0 : s₁.heap = s.heap := by rw [B.state]; rfl
    obtain ⟨t, a1, o, b1, b2, b3⟩ := body p e s m args below meth c s₁ B hml hP s₁ hh0 (Stand.of_body B)
    exact ⟨t, o, a1, b1, b2, ⟨b3.1, b3.2⟩⟩
theorem zmet_of {X : zv_X} {s0 : Nat} {ov : Nat → Value} {cA : Nat → ClassId} {D : va_G} {l : Launch} (hov : (∀ i, (ov i).category = 1) ∧ ∀ i, i ≠ 90 → ∃ t, ov i = .ref t) {n : Nat} (ih : ∀ {n0 z0 : Nat} {res : zv_R} {m : Nat} {p : Program} {e : Env} {R : Room} {s : State} {mid : MethodId} {args : Array Value} {below : List Frame} {meth : Method} {c : Code} {Q : State → Prop}, m < 210 → zCx X s0 ov cA D n0 z0 res m p R s mid args meth c → zRet s0 ov cA D n0 z0 res m p l e R s mid args below meth c Q → ∀ (lb : Nat) (ls : zv_L) (st : List Value) (μ : zv_M), zv_run X n (m, lb, ls, st, μ) = some res → zW X s0 ov cA D n0 z0 res m p l e R s mid args below meth c Q lb ls st μ) {b : Nat} {as : List Value} {μ : zv_M} {r : zv_R} (h : zv_run X n (b, 0, zv_ent b as, [], μ) = some r) (hb : b < 209) (hlen : (zv_flt as).length ≤ (zv_mi b).1) : (μ.1.length ≤ r.2.1.length ∧ zsl μ.1 ≤ zsl r.2.1) ∧ zMet l X s0 ov cA D b as μ r := by
  have gm := zrun_ge n _ _ h
  have M := zmeth b hb
  refine ⟨gm, ?_⟩
  unfold zMet
  refine Met_ofW (cc := zv_mb b) (maxL := (zv_mi b).1) (ret := zv_mr b) M.2.2.1 rfl ?_
  intro p e s mid args below meth c s₁ B hml hv
  obtain ⟨rfl, hsz, hP, hK, hG⟩ := hv
  have hts := atoms_spec (ws := zv_ws b) B.pre
  have hown : s.vm.findClass (zv_mn b).cls = some mid.cls := findClass_of_methodNamed B.named
  have C : zCx X s0 ov cA D μ.1.length (zsl μ.1) r b p (zv_rm b μ r) s mid (as.map (zc s0 ov)).toArray meth c := ⟨B.exec, B.bytes, hml, by rw [← M.2.1]; exact hown, fun w hw => hts w (List.mem_cons_of_mem _ hw), B.returns, B.notSynchronized, fun hk => by
      rw [(name_of_methodNamed B.named B.method).1]
      exact (M.2.2.2.2.2.2.2 hk).2.1, Nat.le_refl _, Nat.le_refl _, hK, hG, hsz, by
      show r.2.1.length ≤ μ.1.length + (r.2.1.length - μ.1.length)
      omega, by
      show zsl r.2.1 ≤ zsl μ.1 + (zsl r.2.1 - zsl μ.1)
      omega, hov⟩
  have hR : zRet s0 ov cA D μ.1.length (zsl μ.1) r b p l e (zv_rm b μ r) s mid (as.map (zc s0 ov)).toArray below meth c (MQ below (zPost s0 ov cA D r) (as.map (zc s0 ov)).toArray s (r.2.1.length - μ.1.length) (zsl r.2.1 - zsl μ.1) (fun q => s0 ≤ q)) := by
    intro pc H locs rl hP1 hS1 _ _ hd
    obtain ⟨v, μ'⟩ := r
    have hq : ∀ t : State, t.heap = H → s.WarmedH t.vm → zPost s0 ov cA D (v, μ') (as.map (zc s0 ov)).toArray s (.returned (v.map (zc s0 ov))) t := fun t ht hW => ⟨⟨rfl, by rw [ht]; exact hP1⟩, hS1.F ht⟩
    unfold zrd at hd
    dsimp only at hd hq ⊢
    split at hd
    · exact W.vret B.exec B.bytes (B.returns.trans hd.2) hq hS1.2.2 hd.1 B.notSynchronized
    · obtain ⟨hd, ty, h1, h2⟩ := hd
      exact W.zret B.exec B.bytes (B.returns.trans h1) h2 hq hS1.2.2 hd B.notSynchronized
    · exact W.lret B.exec B.bytes (B.returns.trans hd.2) hq hS1.2.2 hd.1 B.notSynchronized
    · obtain ⟨hd, h9, n9, h1⟩ := hd
      exact W.aret B.exec B.bytes (B.returns.trans h1) (Or.inl ⟨_, rfl⟩) (Or.inr (hov.2 _ h9)) hq hS1.2.2 hd B.notSynchronized
    · exact hd.elim
  have g := ih (by omega) C hR 0 _ _ _ h
  rw [lg_entry_eq]
  have hl := lv_entry (as.map (zc s0 ov)) (n := (zv_mi b).1) (by rw [zflt_len hov.1]; exact hlen)
  refine W.cs (cells' := μ.1.length - μ.1.length) (slots' := zsl μ.1 - zsl μ.1) (by omega) (by omega) ?_
  refine g.2 s.heap [] _ (Nat.le_refl _) (Nat.le_refl _) hP va_S.rf (zal_sub hl (fun j v hv => ?_)) ?_
  · have hj : (zv_flt as)[j]? = some (some v) := by
      unfold zv_ent at hv
      by_cases h9 : j < (zv_flt as).length
      · rwa [List.getElem?_append_left h9] at hv
      · rw [List.getElem?_append_right (by omega), List.getElem?_replicate] at hv
        split at hv <;> cases hv
    have := zflt_at (s0 := s0) hov.1 as 0 j v hj
    rwa [Nat.zero_add] at this
  · unfold zv_ent
    rw [List.length_append, List.length_replicate]
    omega
def zMNA : Prop := ∀ {X : zv_X} {s0 : Nat} {ov : Nat → Value} {cA : Nat → ClassId} {D : va_G} {n0 z0 : Nat} {res : zv_R} {m : Nat} {p : Program} {e : Env} {R : Room} {s : State} {mid : MethodId} {args : Array Value} {below : List Frame} {meth : Method} {c : Code} {Q : State → Prop} {l : Launch} (C : zCx X s0 ov cA D n0 z0 res m p R s mid args meth c) (pc idx dm : Nat) (d : List Nat) (ls : zv_L) (st : List Value) (μ : zv_M) (k : zv_L → List Value → zv_M → Option zv_R), zchk m (pc, .multianewarray idx dm, d) = true → zv_op X (.multianewarray idx dm) d ls st μ k = some res → (∀ ls st μ, k ls st μ = some res → zW X s0 ov cA D n0 z0 res m p l e R s mid args below meth c Q (pc + 4) ls st μ) → zW X s0 ov cA D n0 z0 res m p l e R s mid args below meth c Q pc ls st μ
theorem zrc_all (m : Nat) (hm : m < 210) : zrc (zv_mi m).2.1 (zv_mr m) = true := by
  by_cases h : m < 209
  · exact (zmeth m h).2.2.2.1
  · have e : m = 209 := by omega
    subst e
    decide +kernel
theorem zmain {X : zv_X} {s0 : Nat} {ov : Nat → Value} {cA : Nat → ClassId} {D : va_G} {l : Launch} (hov : (∀ i, (ov i).category = 1) ∧ ∀ i, i ≠ 90 → ∃ t, ov i = .ref t) (hblk : ∀ m, m < 210 → ∀ lb b, zv_blk m lb = some b → zchkb m (lb, b) = true) (hmna : zMNA) (n : Nat) : ∀ {n0 z0 : Nat} {res : zv_R} {m : Nat} {p : Program} {e : Env} {R : Room} {s : State} {mid : MethodId} {args : Array Value} {below : List Frame} {meth : Method} {c : Code} {Q : State → Prop}, m < 210 → zCx X s0 ov cA D n0 z0 res m p R s mid args meth c → zRet s0 ov cA D n0 z0 res m p l e R s mid args below meth c Q → ∀ (lb : Nat) (ls : zv_L) (st : List Value) (μ : zv_M), zv_run X n (m, lb, ls, st, μ) = some res → zW X s0 ov cA D n0 z0 res m p l e R s mid args below meth c Q lb ls st μ := by
  induction n with
  | zero =>
    intro n0 z0 res m p e R s mid args below meth c Q _ _ _ lb ls st μ h
    cases h
  | succ n ih =>
    intro n0 z0 res m p e R s mid args below meth c Q hm C hR lb ls st μ h
    have h : zv_step X (zv_run X n) (m, lb, ls, st, μ) = some res := h
    unfold zv_step at h
    split at h
    · rename_i b hb
      obtain ⟨a1, a2⟩ := zand (hblk m hm lb b hb)
      refine zs_exe C (zrc_all m hm) (fun l9 ls st μ h9 => ih hm C hR l9 ls st μ h9) (fun b as μ r h9 hb hl => zmet_of hov ih h9 hb hl) hR (fun pc idx dm d ls st μ k => hmna C pc idx dm d ls st μ k) b.2 lb ls st μ a1 (fun q r e => ?_) h
      dsimp only at a2
      rw [e] at a2
      exact of_decide_eq_true a2
    · cases h
end
section
/-! THE CLAIM OUT OF ONE WALK OF THE LAW'S BODY. Your part is whole_start (and what it stands on); all else here is the same for every law, but numbers. -/
def R_law : String := "GuessedPlaceLaw"
def lw_P (b : Addr) (xs : List Int32) (args : Array Value) (s : State) : Prop := args = #[.ref b] ∧ s.IntsAt b xs ∧ xs.length ≤ 3072 ∧ (Jvm.Cond.and given_1 narrow_1).before args s = true
def lw_Q (_ : Array Value) (s : State) (o : Outcome) (t : State) : Prop := o = .returned (some (.int 1)) ∧ Framed s o t [] 600000 7302250
def lw_Z (below : List Frame) (a : Array Value) (s : State) : State → Prop := fun t => ∃ o, t.status = .running ∧ Ended t below o ∧ lw_Q a s o t
/-- the law's own end, with 1 on the stack, nothing written that was there before, its room as the claim has it -/
theorem lw_ret {p : Program} {l : Launch} {e : Env} {s : State} {m : MethodId} {below : List Frame} {meth : Method} {c : Code} {b : Nat} (hx : p.tables.exec = Jvm.exec) (hb : c.code = code) (hr : meth.sig.returnType = ret) (hlocks : meth.locks = false) {pc : Nat} {H : Heap} {ls : Array Slot} (hdg : decode code pc = .ok (.ireturn, 1)) : W p l e room_1 s m #[Value.ref b] below meth c H [] 600000 7302250 (lw_Z below #[Value.ref b] s) (F0 m pc ls [.int 1]) := by
  intro T hT X
  obtain ⟨fs, hret, hrun, hended, hW, hframe⟩ := X.leave (v := some (.int 1)) (hlocks := hlocks) (fun h => by rw [hr] at h; cases h)
  have hmeth' : T.vm.method? m = some meth := X.method'
  refine ⟨T.setFrames fs, ?_, .returned (some (.int 1)), hrun, hended, rfl, ⟨_, rfl⟩, hW, hframe⟩
  jvm_step X.here [X.here.top, hx, hb, hdg, hmeth', hr, ret, narrow_b1]
  (try refine ⟨rfl, ?_⟩); (try refine ⟨rfl, ?_⟩)
  first | (intro acts; rw [hret _ acts rfl rfl rfl]) | rw [hret _ _ rfl rfl rfl]
  exact Steps.refl _
/-- what holds at the law's entry: the machine, the code, the tables' words (any of lw_tbl by 'hts w (by decide +kernel)'), the script of L ints xs at the cell b, what the Statement gives of the start (any of its parts by flat_of_before) -/
def lw_At (p : Program) (s : State) (m : MethodId) (meth : Method) (c : Code) (b L : Nat) (xs : Nat → Int32) : Prop :=
  p.tables.exec = Jvm.exec ∧ c.code = code ∧ meth.sig.returnType = ret ∧ c.maxLocals = 4 ∧ s.vm.findClass R_law = some m.cls ∧ (∀ w ∈ lw_tbl, w.before #[Value.ref b] s = true) ∧ va_X b L xs s s.heap ∧ b < s.heap.size ∧ meth.locks = false ∧ (Jvm.Cond.and given_1 narrow_1).before #[Value.ref b] s = true
/-! THE START: what the Statement gives becomes the start of the run -/
def zμ0 : zv_M := ([], fun _ _ => 0, fun _ _ => 0, fun _ _ => none)
/-- the pure goal: the run of the law answers 1, within the room -/
def zPure (X : zv_X) : Prop := ∃ μe : zv_M, zR X (209, 0, [some (.retAddr 0), none, none, none], [], zμ0) = some (some (.int 1), μe) ∧ μe.1.length ≤ 600000 ∧ zsl μe.1 ≤ 7302250
def zsi : List Nat := [151, 153, 155, 157, 159, 161, 163]
def zsb : List (List Int32) := [[107, 101, 121], [114, 117, 110], [100, 114, 111, 112], [115, 108, 97, 99, 107], [117, 112, 112, 101, 114], [114, 111, 111, 109], []]
def zsl7 : List Nat := [3, 3, 4, 5, 5, 4, 0]
def ztm (i : Nat) : Term := .string "GuessedPlace$Teller" (zsi.getD i 0)
theorem z7 {P : Nat → Prop} (h : P 0 ∧ P 1 ∧ P 2 ∧ P 3 ∧ P 4 ∧ P 5 ∧ P 6) : ∀ i, i < 7 → P i := by
  intro i hi
  match i, hi with
  | 0, _ => exact h.1
  | 1, _ => exact h.2.1
  | 2, _ => exact h.2.2.1
  | 3, _ => exact h.2.2.2.1
  | 4, _ => exact h.2.2.2.2.1
  | 5, _ => exact h.2.2.2.2.2.1
  | 6, _ => exact h.2.2.2.2.2.2
  | i + 7, h => exact absurd h (by omega)
theorem z8 {P : Nat → Prop} (h : P 0 ∧ P 1 ∧ P 2 ∧ P 3 ∧ P 4 ∧ P 5 ∧ P 6 ∧ P 7) : ∀ i, i < 8 → P i := by
  intro i hi
  match i, hi with
  | 0, _ => exact h.1
  | 1, _ => exact h.2.1
  | 2, _ => exact h.2.2.1
  | 3, _ => exact h.2.2.2.1
  | 4, _ => exact h.2.2.2.2.1
  | 5, _ => exact h.2.2.2.2.2.1
  | 6, _ => exact h.2.2.2.2.2.2.1
  | 7, _ => exact h.2.2.2.2.2.2.2
  | i + 8, h => exact absurd h (by omega)
set_option maxRecDepth 100000 in
theorem zst_T1 {s : State} {b : Nat} {X : zv_X} (hgv : (Jvm.Cond.and given_1 narrow_1).before #[Value.ref b] s = true) : ∃ t, (Term.static "GuessedPlace" "FIRST_TOLD" "[I").eval #[Value.ref b] s none [] s = some (.ref t) ∧ va_T .int t (zv_old X 1).1 (fun j => .int ((zv_old X 1).2 j)) (fun q => s.heap.size ≤ q) s s.heap := by
  have hs := flat_of_before _ hgv
  refine va_Tof (f := fun j => .int ((zv_old X 1).2 j)) (by show (8 : Nat) < 2 ^ 31; decide) (hs (.arrayOf (Term.static "GuessedPlace" "FIRST_TOLD" "[I") .int) (by decide +kernel)) (va_eqt (z := 8) (hs (.eq (.length (Term.static "GuessedPlace" "FIRST_TOLD" "[I")) (.int 8)) (by decide +kernel))) (z8 ⟨va_eqt (z := 1) (hs (.eq (.elem (Term.static "GuessedPlace" "FIRST_TOLD" "[I") (.int 0)) (.int 1)) (by decide +kernel)), va_eqt (z := 1) (hs (.eq (.elem (Term.static "GuessedPlace" "FIRST_TOLD" "[I") (.int 1)) (.int 1)) (by decide +kernel)), va_eqt (z := 4) (hs (.eq (.elem (Term.static "GuessedPlace" "FIRST_TOLD" "[I") (.int 2)) (.int 4)) (by decide +kernel)), va_eqt (z := 8) (hs (.eq (.elem (Term.static "GuessedPlace" "FIRST_TOLD" "[I") (.int 3)) (.int 8)) (by decide +kernel)), va_eqt (z := 8) (hs (.eq (.elem (Term.static "GuessedPlace" "FIRST_TOLD" "[I") (.int 4)) (.int 8)) (by decide +kernel)), va_eqt (z := 64) (hs (.eq (.elem (Term.static "GuessedPlace" "FIRST_TOLD" "[I") (.int 5)) (.int 64)) (by decide +kernel)), va_eqt (z := 2) (hs (.eq (.elem (Term.static "GuessedPlace" "FIRST_TOLD" "[I") (.int 6)) (.int 2)) (by decide +kernel)), va_eqt (z := 0) (hs (.eq (.elem (Term.static "GuessedPlace" "FIRST_TOLD" "[I") (.int 7)) (.int 0)) (by decide +kernel))⟩) (fun a h9 => Nat.not_le.mpr h9)
set_option maxRecDepth 100000 in
theorem zst_T2 {s : State} {b : Nat} {X : zv_X} (hgv : (Jvm.Cond.and given_1 narrow_1).before #[Value.ref b] s = true) : ∃ t, (Term.static "GuessedPlace" "LEAST_TOLD" "[I").eval #[Value.ref b] s none [] s = some (.ref t) ∧ va_T .int t (zv_old X 2).1 (fun j => .int ((zv_old X 2).2 j)) (fun q => s.heap.size ≤ q) s s.heap := by
  have hs := flat_of_before _ hgv
  refine va_Tof (f := fun j => .int ((zv_old X 2).2 j)) (by show (8 : Nat) < 2 ^ 31; decide) (hs (.arrayOf (Term.static "GuessedPlace" "LEAST_TOLD" "[I") .int) (by decide +kernel)) (va_eqt (z := 8) (hs (.eq (.length (Term.static "GuessedPlace" "LEAST_TOLD" "[I")) (.int 8)) (by decide +kernel))) (z8 ⟨va_eqt (z := 0) (hs (.eq (.elem (Term.static "GuessedPlace" "LEAST_TOLD" "[I") (.int 0)) (.int 0)) (by decide +kernel)), va_eqt (z := 0) (hs (.eq (.elem (Term.static "GuessedPlace" "LEAST_TOLD" "[I") (.int 1)) (.int 0)) (by decide +kernel)), va_eqt (z := 0) (hs (.eq (.elem (Term.static "GuessedPlace" "LEAST_TOLD" "[I") (.int 2)) (.int 0)) (by decide +kernel)), va_eqt (z := 1) (hs (.eq (.elem (Term.static "GuessedPlace" "LEAST_TOLD" "[I") (.int 3)) (.int 1)) (by decide +kernel)), va_eqt (z := 2) (hs (.eq (.elem (Term.static "GuessedPlace" "LEAST_TOLD" "[I") (.int 4)) (.int 2)) (by decide +kernel)), va_eqt (z := 8) (hs (.eq (.elem (Term.static "GuessedPlace" "LEAST_TOLD" "[I") (.int 5)) (.int 8)) (by decide +kernel)), va_eqt (z := 1) (hs (.eq (.elem (Term.static "GuessedPlace" "LEAST_TOLD" "[I") (.int 6)) (.int 1)) (by decide +kernel)), va_eqt (z := 0) (hs (.eq (.elem (Term.static "GuessedPlace" "LEAST_TOLD" "[I") (.int 7)) (.int 0)) (by decide +kernel))⟩) (fun a h9 => Nat.not_le.mpr h9)
set_option maxRecDepth 100000 in
theorem zst_T3 {s : State} {b : Nat} {X : zv_X} (hgv : (Jvm.Cond.and given_1 narrow_1).before #[Value.ref b] s = true) : ∃ t, (Term.static "GuessedPlace" "MOST_TOLD" "[I").eval #[Value.ref b] s none [] s = some (.ref t) ∧ va_T .int t (zv_old X 3).1 (fun j => .int ((zv_old X 3).2 j)) (fun q => s.heap.size ≤ q) s s.heap := by
  have hs := flat_of_before _ hgv
  refine va_Tof (f := fun j => .int ((zv_old X 3).2 j)) (by show (8 : Nat) < 2 ^ 31; decide) (hs (.arrayOf (Term.static "GuessedPlace" "MOST_TOLD" "[I") .int) (by decide +kernel)) (va_eqt (z := 8) (hs (.eq (.length (Term.static "GuessedPlace" "MOST_TOLD" "[I")) (.int 8)) (by decide +kernel))) (z8 ⟨va_eqt (z := 20) (hs (.eq (.elem (Term.static "GuessedPlace" "MOST_TOLD" "[I") (.int 0)) (.int 20)) (by decide +kernel)), va_eqt (z := 20) (hs (.eq (.elem (Term.static "GuessedPlace" "MOST_TOLD" "[I") (.int 1)) (.int 20)) (by decide +kernel)), va_eqt (z := 50) (hs (.eq (.elem (Term.static "GuessedPlace" "MOST_TOLD" "[I") (.int 2)) (.int 50)) (by decide +kernel)), va_eqt (z := 99) (hs (.eq (.elem (Term.static "GuessedPlace" "MOST_TOLD" "[I") (.int 3)) (.int 99)) (by decide +kernel)), va_eqt (z := 99) (hs (.eq (.elem (Term.static "GuessedPlace" "MOST_TOLD" "[I") (.int 4)) (.int 99)) (by decide +kernel)), va_eqt (z := 512) (hs (.eq (.elem (Term.static "GuessedPlace" "MOST_TOLD" "[I") (.int 5)) (.int 512)) (by decide +kernel)), va_eqt (z := 4) (hs (.eq (.elem (Term.static "GuessedPlace" "MOST_TOLD" "[I") (.int 6)) (.int 4)) (by decide +kernel)), va_eqt (z := 99999) (hs (.eq (.elem (Term.static "GuessedPlace" "MOST_TOLD" "[I") (.int 7)) (.int 99999)) (by decide +kernel))⟩) (fun a h9 => Nat.not_le.mpr h9)
theorem zlen31 {args : Array Value} {s : State} {tm : Term} {t : Nat} {cell : Cell} {z : Value} (ht : tm.eval args s none [] s = some (.ref t)) (hat : s.arrayAt? t = some cell) (hlen : (Term.length tm).eval args s none [] s = some z) : cell.slots.size < 2147483648 := by
  simp only [Term.eval, ht, hat, Option.bind_eq_bind, Option.bind_some] at hlen
  by_cases hlt : cell.slots.size < 2147483648
  · exact hlt
  · simp [hlt] at hlen
set_option maxRecDepth 100000 in
theorem zst_F {s : State} {b : Nat} {X : zv_X} (hgv : (Jvm.Cond.and given_1 narrow_1).before #[Value.ref b] s = true) {t : Nat} (ht : (Term.static "GuessedPlace" "FIRST_TOLD" "[I").eval #[Value.ref b] s none [] s = some (.ref t)) (hT : va_T .int t (zv_old X 1).1 (fun j => .int ((zv_old X 1).2 j)) (fun q => s.heap.size ≤ q) s s.heap) : ∃ cell, ¬ s.heap.size ≤ t ∧ s.heap[t]? = some cell ∧ cell.vm.isStatics = false ∧ cell.vm ≠ .unknown ∧ s.vm.findClass "[I" = some cell.cls ∧ cell.slots.size = 8 ∧ ∀ j, j < 8 → cell.slots[j]? = some (.int ((zv_old X 1).2 j)) := by
  have hs := flat_of_before _ hgv
  obtain ⟨a, c, cell, k, q1, q2, q3, q4, q5, q6, -⟩ := Cond.exactly_spec (args := #[Value.ref b]) (first := s) (o := none) (s := s) (idx := []) (t := (Term.static "GuessedPlace" "FIRST_TOLD" "[I")) (cls := "[I") (hs (.exactly (Term.static "GuessedPlace" "FIRST_TOLD" "[I") "[I") (by decide +kernel))
  cases ht.symm.trans q1
  obtain ⟨cell2, e1, e2, e3, e4, e5, e6, e7⟩ := hT
  cases q3.symm.trans e1
  have hlen := va_eqt (z := 8) (hs (.eq (.length (Term.static "GuessedPlace" "FIRST_TOLD" "[I")) (.int 8)) (by decide +kernel))
  have hlt : cell.slots.size < 2147483648 := by
    obtain ⟨a2, cell3, f1, f2, f3⟩ := Term.length_spec hlen
    cases ht.symm.trans f1
    obtain ⟨g1, -⟩ := State.arrayAt?_spec f2
    cases q3.symm.trans g1
    exact zlen31 ht f2 hlen
  have e9 : cell.slots.size = 8 := by
    have h1 : (Int32.ofNat cell.slots.size).toNatClampNeg = (Int32.ofNat 8).toNatClampNeg := congrArg Int32.toNatClampNeg e5
    rw [Int32.toNatClampNeg_ofNat_of_lt (by omega), Int32.toNatClampNeg_ofNat_of_lt (by decide)] at h1
    exact h1
  exact ⟨cell, e7, q3, q5, e3, by rw [q6]; exact q2, e9, e6⟩
set_option maxRecDepth 100000 in
set_option maxHeartbeats 4000000 in
theorem zst_S {s : State} {b : Nat} (hgv : (Jvm.Cond.and given_1 narrow_1).before #[Value.ref b] s = true) : ∃ adK adV : Nat → Nat, vk_S 7 zsl7 zsb adK adV (fun q => s.heap.size ≤ q) s s.heap ∧ ∀ i : Nat, i < 7 → (ztm i).eval #[Value.ref b] s none [] s = some (.ref (adK i)) := by
  have hs := flat_of_before _ hgv
  refine vk_Sof (tm := ztm) (z7 (by decide)) ?_ ?_ ?_ ?_ ?_ ?_ (fun a h9 => Nat.not_le.mpr h9)
  · exact z7 ⟨hs (.exactly (Term.string "GuessedPlace$Teller" 151) "java/lang/String") (by decide +kernel), hs (.exactly (Term.string "GuessedPlace$Teller" 153) "java/lang/String") (by decide +kernel), hs (.exactly (Term.string "GuessedPlace$Teller" 155) "java/lang/String") (by decide +kernel), hs (.exactly (Term.string "GuessedPlace$Teller" 157) "java/lang/String") (by decide +kernel), hs (.exactly (Term.string "GuessedPlace$Teller" 159) "java/lang/String") (by decide +kernel), hs (.exactly (Term.string "GuessedPlace$Teller" 161) "java/lang/String") (by decide +kernel), hs (.exactly (Term.string "GuessedPlace$Teller" 163) "java/lang/String") (by decide +kernel)⟩
  · exact z7 ⟨hs (.eq (.field (Term.string "GuessedPlace$Teller" 151) "java/lang/String" "coder" "B") (.int 0)) (by decide +kernel), hs (.eq (.field (Term.string "GuessedPlace$Teller" 153) "java/lang/String" "coder" "B") (.int 0)) (by decide +kernel), hs (.eq (.field (Term.string "GuessedPlace$Teller" 155) "java/lang/String" "coder" "B") (.int 0)) (by decide +kernel), hs (.eq (.field (Term.string "GuessedPlace$Teller" 157) "java/lang/String" "coder" "B") (.int 0)) (by decide +kernel), hs (.eq (.field (Term.string "GuessedPlace$Teller" 159) "java/lang/String" "coder" "B") (.int 0)) (by decide +kernel), hs (.eq (.field (Term.string "GuessedPlace$Teller" 161) "java/lang/String" "coder" "B") (.int 0)) (by decide +kernel), hs (.eq (.field (Term.string "GuessedPlace$Teller" 163) "java/lang/String" "coder" "B") (.int 0)) (by decide +kernel)⟩
  · exact z7 ⟨hs (.arrayOf (Term.field (Term.string "GuessedPlace$Teller" 151) "java/lang/String" "value" "[B") .byte) (by decide +kernel), hs (.arrayOf (Term.field (Term.string "GuessedPlace$Teller" 153) "java/lang/String" "value" "[B") .byte) (by decide +kernel), hs (.arrayOf (Term.field (Term.string "GuessedPlace$Teller" 155) "java/lang/String" "value" "[B") .byte) (by decide +kernel), hs (.arrayOf (Term.field (Term.string "GuessedPlace$Teller" 157) "java/lang/String" "value" "[B") .byte) (by decide +kernel), hs (.arrayOf (Term.field (Term.string "GuessedPlace$Teller" 159) "java/lang/String" "value" "[B") .byte) (by decide +kernel), hs (.arrayOf (Term.field (Term.string "GuessedPlace$Teller" 161) "java/lang/String" "value" "[B") .byte) (by decide +kernel), hs (.arrayOf (Term.field (Term.string "GuessedPlace$Teller" 163) "java/lang/String" "value" "[B") .byte) (by decide +kernel)⟩
  · exact z7 ⟨hs (.eq (.length (Term.field (Term.string "GuessedPlace$Teller" 151) "java/lang/String" "value" "[B")) (.int 3)) (by decide +kernel), hs (.eq (.length (Term.field (Term.string "GuessedPlace$Teller" 153) "java/lang/String" "value" "[B")) (.int 3)) (by decide +kernel), hs (.eq (.length (Term.field (Term.string "GuessedPlace$Teller" 155) "java/lang/String" "value" "[B")) (.int 4)) (by decide +kernel), hs (.eq (.length (Term.field (Term.string "GuessedPlace$Teller" 157) "java/lang/String" "value" "[B")) (.int 5)) (by decide +kernel), hs (.eq (.length (Term.field (Term.string "GuessedPlace$Teller" 159) "java/lang/String" "value" "[B")) (.int 5)) (by decide +kernel), hs (.eq (.length (Term.field (Term.string "GuessedPlace$Teller" 161) "java/lang/String" "value" "[B")) (.int 4)) (by decide +kernel), hs (.eq (.length (Term.field (Term.string "GuessedPlace$Teller" 163) "java/lang/String" "value" "[B")) (.int 0)) (by decide +kernel)⟩
  · exact z7 (P := fun i => ∀ j : Nat, j < zsl7.getD i 0 → _) ⟨fun j hj => by
      match j, hj with
      | 0, _ => exact hs (.eq (.elem (Term.field (Term.string "GuessedPlace$Teller" 151) "java/lang/String" "value" "[B") (.int 0)) (.int 107)) (by decide +kernel)
      | 1, _ => exact hs (.eq (.elem (Term.field (Term.string "GuessedPlace$Teller" 151) "java/lang/String" "value" "[B") (.int 1)) (.int 101)) (by decide +kernel)
      | 2, _ => exact hs (.eq (.elem (Term.field (Term.string "GuessedPlace$Teller" 151) "java/lang/String" "value" "[B") (.int 2)) (.int 121)) (by decide +kernel)
      | j + 3, hj => exact absurd hj (by show ¬ j + 3 < 3; omega), fun j hj => by
      match j, hj with
      | 0, _ => exact hs (.eq (.elem (Term.field (Term.string "GuessedPlace$Teller" 153) "java/lang/String" "value" "[B") (.int 0)) (.int 114)) (by decide +kernel)
      | 1, _ => exact hs (.eq (.elem (Term.field (Term.string "GuessedPlace$Teller" 153) "java/lang/String" "value" "[B") (.int 1)) (.int 117)) (by decide +kernel)
      | 2, _ => exact hs (.eq (.elem (Term.field (Term.string "GuessedPlace$Teller" 153) "java/lang/String" "value" "[B") (.int 2)) (.int 110)) (by decide +kernel)
      | j + 3, hj => exact absurd hj (by show ¬ j + 3 < 3; omega), fun j hj => by
      match j, hj with
      | 0, _ => exact hs (.eq (.elem (Term.field (Term.string "GuessedPlace$Teller" 155) "java/lang/String" "value" "[B") (.int 0)) (.int 100)) (by decide +kernel)
      | 1, _ => exact hs (.eq (.elem (Term.field (Term.string "GuessedPlace$Teller" 155) "java/lang/String" "value" "[B") (.int 1)) (.int 114)) (by decide +kernel)
      | 2, _ => exact hs (.eq (.elem (Term.field (Term.string "GuessedPlace$Teller" 155) "java/lang/String" "value" "[B") (.int 2)) (.int 111)) (by decide +kernel)
      | 3, _ => exact hs (.eq (.elem (Term.field (Term.string "GuessedPlace$Teller" 155) "java/lang/String" "value" "[B") (.int 3)) (.int 112)) (by decide +kernel)
      | j + 4, hj => exact absurd hj (by show ¬ j + 4 < 4; omega), fun j hj => by
      match j, hj with
      | 0, _ => exact hs (.eq (.elem (Term.field (Term.string "GuessedPlace$Teller" 157) "java/lang/String" "value" "[B") (.int 0)) (.int 115)) (by decide +kernel)
      | 1, _ => exact hs (.eq (.elem (Term.field (Term.string "GuessedPlace$Teller" 157) "java/lang/String" "value" "[B") (.int 1)) (.int 108)) (by decide +kernel)
      | 2, _ => exact hs (.eq (.elem (Term.field (Term.string "GuessedPlace$Teller" 157) "java/lang/String" "value" "[B") (.int 2)) (.int 97)) (by decide +kernel)
      | 3, _ => exact hs (.eq (.elem (Term.field (Term.string "GuessedPlace$Teller" 157) "java/lang/String" "value" "[B") (.int 3)) (.int 99)) (by decide +kernel)
      | 4, _ => exact hs (.eq (.elem (Term.field (Term.string "GuessedPlace$Teller" 157) "java/lang/String" "value" "[B") (.int 4)) (.int 107)) (by decide +kernel)
      | j + 5, hj => exact absurd hj (by show ¬ j + 5 < 5; omega), fun j hj => by
      match j, hj with
      | 0, _ => exact hs (.eq (.elem (Term.field (Term.string "GuessedPlace$Teller" 159) "java/lang/String" "value" "[B") (.int 0)) (.int 117)) (by decide +kernel)
      | 1, _ => exact hs (.eq (.elem (Term.field (Term.string "GuessedPlace$Teller" 159) "java/lang/String" "value" "[B") (.int 1)) (.int 112)) (by decide +kernel)
      | 2, _ => exact hs (.eq (.elem (Term.field (Term.string "GuessedPlace$Teller" 159) "java/lang/String" "value" "[B") (.int 2)) (.int 112)) (by decide +kernel)
      | 3, _ => exact hs (.eq (.elem (Term.field (Term.string "GuessedPlace$Teller" 159) "java/lang/String" "value" "[B") (.int 3)) (.int 101)) (by decide +kernel)
      | 4, _ => exact hs (.eq (.elem (Term.field (Term.string "GuessedPlace$Teller" 159) "java/lang/String" "value" "[B") (.int 4)) (.int 114)) (by decide +kernel)
      | j + 5, hj => exact absurd hj (by show ¬ j + 5 < 5; omega), fun j hj => by
      match j, hj with
      | 0, _ => exact hs (.eq (.elem (Term.field (Term.string "GuessedPlace$Teller" 161) "java/lang/String" "value" "[B") (.int 0)) (.int 114)) (by decide +kernel)
      | 1, _ => exact hs (.eq (.elem (Term.field (Term.string "GuessedPlace$Teller" 161) "java/lang/String" "value" "[B") (.int 1)) (.int 111)) (by decide +kernel)
      | 2, _ => exact hs (.eq (.elem (Term.field (Term.string "GuessedPlace$Teller" 161) "java/lang/String" "value" "[B") (.int 2)) (.int 111)) (by decide +kernel)
      | 3, _ => exact hs (.eq (.elem (Term.field (Term.string "GuessedPlace$Teller" 161) "java/lang/String" "value" "[B") (.int 3)) (.int 109)) (by decide +kernel)
      | j + 4, hj => exact absurd hj (by show ¬ j + 4 < 4; omega), fun j hj => absurd hj (Nat.not_lt_zero j)⟩
  · exact fun i j hi hj => z7 (P := fun i => ∀ j, j < 7 → i ≠ j → (Cond.not (Cond.eq (ztm i) (ztm j))).before #[Value.ref b] s = true ∨ (Cond.not (Cond.eq (ztm j) (ztm i))).before #[Value.ref b] s = true) ⟨z7 (P := fun j => 0 ≠ j → (Cond.not (Cond.eq (ztm 0) (ztm j))).before #[Value.ref b] s = true ∨ (Cond.not (Cond.eq (ztm j) (ztm 0))).before #[Value.ref b] s = true) ⟨fun h => absurd rfl h, fun _ => Or.inl (hs (.not (.eq (Term.string "GuessedPlace$Teller" 151) (Term.string "GuessedPlace$Teller" 153))) (by decide +kernel)), fun _ => Or.inl (hs (.not (.eq (Term.string "GuessedPlace$Teller" 151) (Term.string "GuessedPlace$Teller" 155))) (by decide +kernel)), fun _ => Or.inl (hs (.not (.eq (Term.string "GuessedPlace$Teller" 151) (Term.string "GuessedPlace$Teller" 157))) (by decide +kernel)), fun _ => Or.inl (hs (.not (.eq (Term.string "GuessedPlace$Teller" 151) (Term.string "GuessedPlace$Teller" 159))) (by decide +kernel)), fun _ => Or.inl (hs (.not (.eq (Term.string "GuessedPlace$Teller" 151) (Term.string "GuessedPlace$Teller" 161))) (by decide +kernel)), fun _ => Or.inl (hs (.not (.eq (Term.string "GuessedPlace$Teller" 151) (Term.string "GuessedPlace$Teller" 163))) (by decide +kernel))⟩, z7 (P := fun j => 1 ≠ j → (Cond.not (Cond.eq (ztm 1) (ztm j))).before #[Value.ref b] s = true ∨ (Cond.not (Cond.eq (ztm j) (ztm 1))).before #[Value.ref b] s = true) ⟨fun _ => Or.inr (hs (.not (.eq (Term.string "GuessedPlace$Teller" 151) (Term.string "GuessedPlace$Teller" 153))) (by decide +kernel)), fun h => absurd rfl h, fun _ => Or.inl (hs (.not (.eq (Term.string "GuessedPlace$Teller" 153) (Term.string "GuessedPlace$Teller" 155))) (by decide +kernel)), fun _ => Or.inl (hs (.not (.eq (Term.string "GuessedPlace$Teller" 153) (Term.string "GuessedPlace$Teller" 157))) (by decide +kernel)), fun _ => Or.inl (hs (.not (.eq (Term.string "GuessedPlace$Teller" 153) (Term.string "GuessedPlace$Teller" 159))) (by decide +kernel)), fun _ => Or.inl (hs (.not (.eq (Term.string "GuessedPlace$Teller" 153) (Term.string "GuessedPlace$Teller" 161))) (by decide +kernel)), fun _ => Or.inl (hs (.not (.eq (Term.string "GuessedPlace$Teller" 153) (Term.string "GuessedPlace$Teller" 163))) (by decide +kernel))⟩, z7 (P := fun j => 2 ≠ j → (Cond.not (Cond.eq (ztm 2) (ztm j))).before #[Value.ref b] s = true ∨ (Cond.not (Cond.eq (ztm j) (ztm 2))).before #[Value.ref b] s = true) ⟨fun _ => Or.inr (hs (.not (.eq (Term.string "GuessedPlace$Teller" 151) (Term.string "GuessedPlace$Teller" 155))) (by decide +kernel)), fun _ => Or.inr (hs (.not (.eq (Term.string "GuessedPlace$Teller" 153) (Term.string "GuessedPlace$Teller" 155))) (by decide +kernel)), fun h => absurd rfl h, fun _ => Or.inl (hs (.not (.eq (Term.string "GuessedPlace$Teller" 155) (Term.string "GuessedPlace$Teller" 157))) (by decide +kernel)), fun _ => Or.inl (hs (.not (.eq (Term.string "GuessedPlace$Teller" 155) (Term.string "GuessedPlace$Teller" 159))) (by decide +kernel)), fun _ => Or.inl (hs (.not (.eq (Term.string "GuessedPlace$Teller" 155) (Term.string "GuessedPlace$Teller" 161))) (by decide +kernel)), fun _ => Or.inl (hs (.not (.eq (Term.string "GuessedPlace$Teller" 155) (Term.string "GuessedPlace$Teller" 163))) (by decide +kernel))⟩, z7 (P := fun j => 3 ≠ j → (Cond.not (Cond.eq (ztm 3) (ztm j))).before #[Value.ref b] s = true ∨ (Cond.not (Cond.eq (ztm j) (ztm 3))).before #[Value.ref b] s = true) ⟨fun _ => Or.inr (hs (.not (.eq (Term.string "GuessedPlace$Teller" 151) (Term.string "GuessedPlace$Teller" 157))) (by decide +kernel)), fun _ => Or.inr (hs (.not (.eq (Term.string "GuessedPlace$Teller" 153) (Term.string "GuessedPlace$Teller" 157))) (by decide +kernel)), fun _ => Or.inr (hs (.not (.eq (Term.string "GuessedPlace$Teller" 155) (Term.string "GuessedPlace$Teller" 157))) (by decide +kernel)), fun h => absurd rfl h, fun _ => Or.inl (hs (.not (.eq (Term.string "GuessedPlace$Teller" 157) (Term.string "GuessedPlace$Teller" 159))) (by decide +kernel)), fun _ => Or.inl (hs (.not (.eq (Term.string "GuessedPlace$Teller" 157) (Term.string "GuessedPlace$Teller" 161))) (by decide +kernel)), fun _ => Or.inl (hs (.not (.eq (Term.string "GuessedPlace$Teller" 157) (Term.string "GuessedPlace$Teller" 163))) (by decide +kernel))⟩, z7 (P := fun j => 4 ≠ j → (Cond.not (Cond.eq (ztm 4) (ztm j))).before #[Value.ref b] s = true ∨ (Cond.not (Cond.eq (ztm j) (ztm 4))).before #[Value.ref b] s = true) ⟨fun _ => Or.inr (hs (.not (.eq (Term.string "GuessedPlace$Teller" 151) (Term.string "GuessedPlace$Teller" 159))) (by decide +kernel)), fun _ => Or.inr (hs (.not (.eq (Term.string "GuessedPlace$Teller" 153) (Term.string "GuessedPlace$Teller" 159))) (by decide +kernel)), fun _ => Or.inr (hs (.not (.eq (Term.string "GuessedPlace$Teller" 155) (Term.string "GuessedPlace$Teller" 159))) (by decide +kernel)), fun _ => Or.inr (hs (.not (.eq (Term.string "GuessedPlace$Teller" 157) (Term.string "GuessedPlace$Teller" 159))) (by decide +kernel)), fun h => absurd rfl h, fun _ => Or.inl (hs (.not (.eq (Term.string "GuessedPlace$Teller" 159) (Term.string "GuessedPlace$Teller" 161))) (by decide +kernel)), fun _ => Or.inl (hs (.not (.eq (Term.string "GuessedPlace$Teller" 159) (Term.string "GuessedPlace$Teller" 163))) (by decide +kernel))⟩, z7 (P := fun j => 5 ≠ j → (Cond.not (Cond.eq (ztm 5) (ztm j))).before #[Value.ref b] s = true ∨ (Cond.not (Cond.eq (ztm j) (ztm 5))).before #[Value.ref b] s = true) ⟨fun _ => Or.inr (hs (.not (.eq (Term.string "GuessedPlace$Teller" 151) (Term.string "GuessedPlace$Teller" 161))) (by decide +kernel)), fun _ => Or.inr (hs (.not (.eq (Term.string "GuessedPlace$Teller" 153) (Term.string "GuessedPlace$Teller" 161))) (by decide +kernel)), fun _ => Or.inr (hs (.not (.eq (Term.string "GuessedPlace$Teller" 155) (Term.string "GuessedPlace$Teller" 161))) (by decide +kernel)), fun _ => Or.inr (hs (.not (.eq (Term.string "GuessedPlace$Teller" 157) (Term.string "GuessedPlace$Teller" 161))) (by decide +kernel)), fun _ => Or.inr (hs (.not (.eq (Term.string "GuessedPlace$Teller" 159) (Term.string "GuessedPlace$Teller" 161))) (by decide +kernel)), fun h => absurd rfl h, fun _ => Or.inl (hs (.not (.eq (Term.string "GuessedPlace$Teller" 161) (Term.string "GuessedPlace$Teller" 163))) (by decide +kernel))⟩, z7 (P := fun j => 6 ≠ j → (Cond.not (Cond.eq (ztm 6) (ztm j))).before #[Value.ref b] s = true ∨ (Cond.not (Cond.eq (ztm j) (ztm 6))).before #[Value.ref b] s = true) ⟨fun _ => Or.inr (hs (.not (.eq (Term.string "GuessedPlace$Teller" 151) (Term.string "GuessedPlace$Teller" 163))) (by decide +kernel)), fun _ => Or.inr (hs (.not (.eq (Term.string "GuessedPlace$Teller" 153) (Term.string "GuessedPlace$Teller" 163))) (by decide +kernel)), fun _ => Or.inr (hs (.not (.eq (Term.string "GuessedPlace$Teller" 155) (Term.string "GuessedPlace$Teller" 163))) (by decide +kernel)), fun _ => Or.inr (hs (.not (.eq (Term.string "GuessedPlace$Teller" 157) (Term.string "GuessedPlace$Teller" 163))) (by decide +kernel)), fun _ => Or.inr (hs (.not (.eq (Term.string "GuessedPlace$Teller" 159) (Term.string "GuessedPlace$Teller" 163))) (by decide +kernel)), fun _ => Or.inr (hs (.not (.eq (Term.string "GuessedPlace$Teller" 161) (Term.string "GuessedPlace$Teller" 163))) (by decide +kernel)), fun h => absurd rfl h⟩⟩ i hi j hj
end
section
theorem zAO2 {ty : FieldType} {s : State} {args : Array Value} (h : (Cond.arrayOver (.array ty)).before args s = true) : zA2 ty s := by
  unfold Cond.before Cond.holds at h
  simp only [Cond.value, beq_iff_eq] at h
  cases hc : s.vm.findClass (FieldType.array ty).toString with
  | none => simp [hc] at h
  | some comp =>
    simp only [hc, Option.bind_some, Option.bind_eq_some_iff, Option.map_eq_some_iff] at h
    obtain ⟨c, hi, k, hk, hb⟩ := h
    obtain ⟨hlt, hp, -⟩ := Array.findIdx?_eq_some_iff_getElem.mp hi
    have hkk : s.vm.classes[c] = k := (Array.getElem?_eq_some_iff.mp hk).2
    rw [hkk] at hp
    cases hkind : k.kind with
    | array component t9 =>
      rw [hkind] at hb hp
      simp only [Bool.and_eq_true, decide_eq_true_eq] at hb
      have e1 : component = comp := by simpa using hp
      exact ⟨comp, c, k, hc, hb.2, hk, by rw [hkind, e1, hb.1]⟩
    | _ => rw [hkind] at hb; simp at hb
/-- what is known of the arrays' kinds at the start -/
theorem zst_A {s : State} {b : Nat} (hts : ∀ w ∈ lw_tbl, w.before #[Value.ref b] s = true) : ∃ cA : Nat → ClassId, ∀ (k : Nat) (q : ClassId × FieldType), (zv_tys cA)[k]? = some q → ArrOfT s q.1 q.2 ∧ va_RA s q.1 q.2 := by
  have hp : ∀ ty : FieldType, Cond.arrayClass ty ∈ lw_tbl → ∃ c, ArrOfT s c ty ∧ s.vm.findClass ("[" ++ ty.toString) = some c := by
    intro ty hw
    obtain ⟨c, k, comp, h1, h2, h3⟩ := Cond.arrayClass_spec (hts _ hw)
    exact ⟨c, fun n z => ⟨fun k h => (by cases h), k, h2, comp, h3⟩, h1⟩
  have hi := (List.mem_filter.mp zt_ac.1).1
  have hl := (List.mem_filter.mp zt_ac.2.1).1
  have hb := (List.mem_filter.mp zt_ac.2.2.1).1
  have hz := (List.mem_filter.mp zt_ac.2.2.2).1
  obtain ⟨c0, a0, b0⟩ := hp _ hi
  obtain ⟨c1, a1, b1⟩ := hp _ hl
  obtain ⟨c2, a2, b2⟩ := hp _ hb
  obtain ⟨c3, a3, b3⟩ := hp _ hz
  obtain ⟨comp4, c4, k4, f1, f2, f3, f4, f5⟩ := Cond.arrayOver_spec (hts (.arrayOver (.object "GuessedPlace$Level")) (by decide +kernel))
  obtain ⟨d5, c5, k5, g1, g2, g3, g4⟩ := zAO2 (hts (.arrayOver (.array .int)) (by decide +kernel))
  obtain ⟨d6, c6, k6, h1, h2, h3, h4⟩ := zAO2 (hts (.arrayOver (.array .long)) (by decide +kernel))
  refine ⟨fun i => match i with
    | 0 => c0
    | 1 => c1
    | 2 => c2
    | 3 => c3
    | 4 => c4
    | 5 => c5
    | _ => c6, ?_⟩
  intro k q hq
  match k, hq with
  | 0, hq => cases hq; exact ⟨a0, b0⟩
  | 1, hq => cases hq; exact ⟨a1, b1⟩
  | 2, hq => cases hq; exact ⟨a2, b2⟩
  | 3, hq => cases hq; exact ⟨a3, b3⟩
  | 4, hq => cases hq; exact ⟨fun n z => ⟨fun k h => (by cases h), k4, f3, comp4, f4⟩, k4, comp4, f3, f4, f1, f5⟩
  | 5, hq => cases hq; exact ⟨fun n z => ⟨fun k h => (by cases h), k5, g3, d5, g4⟩, g2⟩
  | 6, hq => cases hq; exact ⟨fun n z => ⟨fun k h => (by cases h), k6, h3, d6, h4⟩, h2⟩
  | k + 7, hq => simp [zv_tys] at hq
/-- what is known of the made kinds at the start -/
theorem zst_D {s : State} {b : Nat} (hts : ∀ w ∈ lw_tbl, w.before #[Value.ref b] s = true) : ∃ D : va_G, ∀ (k : Nat) (q : vw_C), vwCl[k]? = some q → u_Kn s q.1 q.2.1 q.2.2 (D.1 k) (D.2 k) := by
  obtain ⟨c0, i0, h0⟩ := u_known (C := RX0) (T := TX0) (N := 4) (n := 4) hts (fun w hw => (List.mem_filter.mp (zk_ws0 w hw)).1) (hts _ (List.mem_filter.mp zk_0.2.2.2.2.2.2.1).1)
  obtain ⟨c1, i1, h1⟩ := u_known (C := RX1) (T := TX1) (N := 4) (n := 4) hts (fun w hw => (List.mem_filter.mp (zk_ws1 w hw)).1) (hts _ (List.mem_filter.mp zk_1.2.2.2.2.2.2.1).1)
  obtain ⟨c2, i2, h2⟩ := u_known (C := RX2) (T := TX2) (N := 4) (n := 4) hts (fun w hw => (List.mem_filter.mp (zk_ws2 w hw)).1) (hts _ (List.mem_filter.mp zk_2.2.2.2.2.2.2.1).1)
  obtain ⟨c3, i3, h3⟩ := u_known (C := RX3) (T := TX3) (N := 1) (n := 1) hts (fun w hw => (List.mem_filter.mp (zk_ws3 w hw)).1) (hts _ (List.mem_filter.mp zk_3.2.2.2.2.2.2.1).1)
  obtain ⟨c4, i4, h4⟩ := u_known (C := RX4) (T := TX4) (N := 3) (n := 3) hts (fun w hw => (List.mem_filter.mp (zk_ws4 w hw)).1) (hts _ (List.mem_filter.mp zk_4.2.2.2.2.2.2.1).1)
  obtain ⟨c5, i5, h5⟩ := u_known (C := RX5) (T := TX5) (N := 8) (n := 8) hts (fun w hw => (List.mem_filter.mp (zk_ws5 w hw)).1) (hts _ (List.mem_filter.mp zk_5.2.2.2.2.2.2.1).1)
  obtain ⟨c6, i6, h6⟩ := u_known (C := RX6) (T := TX6) (N := 5) (n := 5) hts (fun w hw => (List.mem_filter.mp (zk_ws6 w hw)).1) (hts _ (List.mem_filter.mp zk_6.2.2.2.2.2.2.1).1)
  obtain ⟨c7, i7, h7⟩ := u_known (C := RX7) (T := TX7) (N := 6) (n := 6) hts (fun w hw => (List.mem_filter.mp (zk_ws7 w hw)).1) (hts _ (List.mem_filter.mp zk_7.2.2.2.2.2.2.1).1)
  obtain ⟨c8, i8, h8⟩ := u_known (C := RX8) (T := TX8) (N := 5) (n := 5) hts (fun w hw => (List.mem_filter.mp (zk_ws8 w hw)).1) (hts _ (List.mem_filter.mp zk_8.2.2.2.2.2.2.1).1)
  obtain ⟨c9, i9, h9⟩ := u_known (C := RX9) (T := TX9) (N := 8) (n := 8) hts (fun w hw => (List.mem_filter.mp (zk_ws9 w hw)).1) (hts _ (List.mem_filter.mp zk_9.2.2.2.2.2.2.1).1)
  obtain ⟨c10, i10, h10⟩ := u_known (C := RX10) (T := TX10) (N := 10) (n := 10) hts (fun w hw => (List.mem_filter.mp (zk_ws10 w hw)).1) (hts _ (List.mem_filter.mp zk_10.2.2.2.2.2.2.1).1)
  obtain ⟨c11, i11, h11⟩ := u_known (C := RX11) (T := TX11) (N := 8) (n := 8) hts (fun w hw => (List.mem_filter.mp (zk_ws11 w hw)).1) (hts _ (List.mem_filter.mp zk_11.2.2.2.2.2.2.1).1)
  obtain ⟨c12, i12, h12⟩ := u_known (C := RX12) (T := TX12) (N := 33) (n := 33) hts (fun w hw => (List.mem_filter.mp (zk_ws12 w hw)).1) (hts _ (List.mem_filter.mp zk_12.2.2.2.2.2.2.1).1)
  refine ⟨(fun k => match k with
    | 0 => c0
    | 1 => c1
    | 2 => c2
    | 3 => c3
    | 4 => c4
    | 5 => c5
    | 6 => c6
    | 7 => c7
    | 8 => c8
    | 9 => c9
    | 10 => c10
    | 11 => c11
    | 12 => c12
    | _ => c0, fun k => match k with
    | 0 => i0
    | 1 => i1
    | 2 => i2
    | 3 => i3
    | 4 => i4
    | 5 => i5
    | 6 => i6
    | 7 => i7
    | 8 => i8
    | 9 => i9
    | 10 => i10
    | 11 => i11
    | 12 => i12
    | _ => i0), ?_⟩
  intro k q hq
  match k, hq with
  | 0, hq => cases hq; exact h0
  | 1, hq => cases hq; exact h1
  | 2, hq => cases hq; exact h2
  | 3, hq => cases hq; exact h3
  | 4, hq => cases hq; exact h4
  | 5, hq => cases hq; exact h5
  | 6, hq => cases hq; exact h6
  | 7, hq => cases hq; exact h7
  | 8, hq => cases hq; exact h8
  | 9, hq => cases hq; exact h9
  | 10, hq => cases hq; exact h10
  | 11, hq => cases hq; exact h11
  | 12, hq => cases hq; exact h12
  | k + 13, hq => simp [vwCl] at hq
theorem zold_S (X : zv_X) : ∀ i, i < 7 → (zv_old X (50 + i)).1 = zsl7.getD i 0 ∧ (zv_old X (50 + i)).2 = fun j => (zsb.getD i []).getD j 0 := z7 ⟨⟨rfl, rfl⟩, ⟨rfl, rfl⟩, ⟨rfl, rfl⟩, ⟨rfl, rfl⟩, ⟨rfl, rfl⟩, ⟨rfl, rfl⟩, ⟨rfl, rfl⟩⟩
theorem zst_Z {s : State} {b : Nat} (hts : ∀ w ∈ lw_tbl, w.before #[Value.ref b] s = true) {C n d : String} {v : Value} (h1 : Cond.laysStatic C n d ∈ lw_tbl) (h2 : Cond.initialized C ∈ lw_tbl) (hv : (Term.static C n d).eval #[Value.ref b] s none [] s = some v) : va_Z C n d v (fun q => s.heap.size ≤ q) s s.heap := va_Zof (hts _ h1) (hts _ h2) hv (fun a h9 => Nat.not_le.mpr h9)
set_option maxRecDepth 100000 in
set_option maxHeartbeats 4000000 in
/-- the world before the law -/
theorem zst_G {s : State} {b L : Nat} {xs : Nat → Int32} (hL : L ≤ 3072) (hts : ∀ w ∈ lw_tbl, w.before #[Value.ref b] s = true) (hX : va_X b L xs s s.heap) (hbl : b < s.heap.size) (hgv : (Jvm.Cond.and given_1 narrow_1).before #[Value.ref b] s = true) : ∃ ov : Nat → Value, ov 0 = .ref b ∧ ((∀ i, (ov i).category = 1) ∧ ∀ i, i ≠ 90 → ∃ t, ov i = .ref t) ∧ zG (L, xs) s.heap.size ov s s.heap := by
  obtain ⟨t1, ev1, T1⟩ := zst_T1 (X := (L, xs)) hgv
  obtain ⟨t2, ev2, T2⟩ := zst_T2 (X := (L, xs)) hgv
  obtain ⟨t3, ev3, T3⟩ := zst_T3 (X := (L, xs)) hgv
  obtain ⟨cell, F⟩ := zst_F (X := (L, xs)) hgv ev1 T1
  obtain ⟨adK, adV, hS, hev⟩ := zst_S hgv
  have hs := flat_of_before _ hgv
  have hq9 := va_Zqof (A := fun q => s.heap.size ≤ q) (hts (.laysStatic "jdk/internal/util/Preconditions" "SIOOBE_FORMATTER" "Ljava/util/function/BiFunction;") (by decide +kernel)) (hts (.initialized "jdk/internal/util/Preconditions") (by decide +kernel)) (hs (.isRef (.static "jdk/internal/util/Preconditions" "SIOOBE_FORMATTER" "Ljava/util/function/BiFunction;")) (by decide +kernel)) (fun a h9 => Nat.not_le.mpr h9)
  obtain ⟨v9, hv9, hz9⟩ : ∃ v, (v = .null ∨ ∃ t, v = .ref t) ∧ va_Z "jdk/internal/util/Preconditions" "SIOOBE_FORMATTER" "Ljava/util/function/BiFunction;" v (fun q => s.heap.size ≤ q) s s.heap := by
    rcases hq9 with h | ⟨t, h⟩
    · exact ⟨_, Or.inl rfl, h⟩
    · exact ⟨_, Or.inr ⟨t, rfl⟩, h⟩
  refine ⟨fun i => if i = 90 then v9 else if i = 0 then .ref b else if i = 1 then .ref t1 else if i = 2 then .ref t2 else if i = 3 then .ref t3 else if i < 50 then .ref (adK (i - 20)) else .ref (adV (i - 50)), rfl, ⟨fun i => ?_, fun i hi => ?_⟩, ?_⟩
  · dsimp only
    split
    · rcases hv9 with rfl | ⟨t, rfl⟩ <;> rfl
    · repeat' (first | rfl | split)
  · dsimp only
    rw [if_neg hi]
    repeat' (first | exact ⟨_, rfl⟩ | split)
  refine ⟨fun i hi => ?_, fun i hi => ?_, ⟨?_, ?_, ?_, ?_, ?_⟩, ?_, ?_, ?_, ?_, ?_, ?_⟩
  · match i, hi with
    | 0, _ =>
      refine ⟨b, rfl, ?_⟩
      obtain ⟨scr, x1, x2, x3, x4, x5⟩ := hX
      exact ⟨scr, x1, x2, x3, by show L ≤ _; rw [x4]; exact Nat.le_refl _, by show Int32.ofNat scr.slots.size = Int32.ofNat L; rw [x4], x5, Nat.not_le.mpr hbl⟩
    | 1, _ => exact ⟨t1, rfl, T1⟩
    | 2, _ => exact ⟨t2, rfl, T2⟩
    | 3, _ => exact ⟨t3, rfl, T3⟩
    | i + 4, h => exact absurd h (by omega)
  · obtain ⟨s1, s2, s3, s4⟩ := hS.1 i hi
    have e1 : (20 + i) - 20 = i := by omega
    have e2 : (50 + i) - 50 = i := by omega
    refine ⟨adK i, adV i, ?_, ?_, s1, s2, s3, ?_⟩
    · dsimp only
      rw [if_neg (by omega), if_neg (by omega), if_neg (by omega), if_neg (by omega), if_neg (by omega), if_pos (by omega), e1]
    · dsimp only
      rw [if_neg (by omega), if_neg (by omega), if_neg (by omega), if_neg (by omega), if_neg (by omega), if_neg (by omega), e2]
    · obtain ⟨q1, q2⟩ := zold_S (L, xs) i hi
      rw [q1, q2]
      exact s4
  · exact zst_Z hts (by decide +kernel) (by decide +kernel) ev1
  · exact zst_Z hts (by decide +kernel) (by decide +kernel) ev2
  · exact zst_Z hts (by decide +kernel) (by decide +kernel) ev3
  · exact zst_Z hts (by decide +kernel) (by decide +kernel) (va_eqi (z := 1) (hs (.eq (.static "java/lang/String" "COMPACT_STRINGS" "Z") (.int 1)) (by decide +kernel)))
  · exact hz9
  · intro q hq
    simp only [zv_sr, List.mem_cons, List.not_mem_nil, or_false] at hq
    rcases hq with rfl | rfl | rfl | rfl | rfl | rfl | rfl | rfl | rfl | rfl | rfl | rfl | rfl
    · exact ⟨adK 0, rfl, vk_R.of (hts (.stringRef "GuessedPlace$Teller" 151 "key") (by decide +kernel)) (hev 0 (by decide))⟩
    · exact ⟨adK 1, rfl, vk_R.of (hts (.stringRef "GuessedPlace$Teller" 153 "run") (by decide +kernel)) (hev 1 (by decide))⟩
    · exact ⟨adK 2, rfl, vk_R.of (hts (.stringRef "GuessedPlace$Teller" 155 "drop") (by decide +kernel)) (hev 2 (by decide))⟩
    · exact ⟨adK 3, rfl, vk_R.of (hts (.stringRef "GuessedPlace$Teller" 157 "slack") (by decide +kernel)) (hev 3 (by decide))⟩
    · exact ⟨adK 4, rfl, vk_R.of (hts (.stringRef "GuessedPlace$Teller" 159 "upper") (by decide +kernel)) (hev 4 (by decide))⟩
    · exact ⟨adK 5, rfl, vk_R.of (hts (.stringRef "GuessedPlace$Teller" 161 "room") (by decide +kernel)) (hev 5 (by decide))⟩
    · exact ⟨adK 6, rfl, vk_R.of (hts (.stringRef "GuessedPlace$Teller" 163 "") (by decide +kernel)) (hev 6 (by decide))⟩
    · exact ⟨adK 0, rfl, vk_R.of (hts (.stringRef "GuessedPlaceModel" 141 "key") (by decide +kernel)) (va_eqR (hs (.eq (.string "GuessedPlace$Teller" 151) (.string "GuessedPlaceModel" 141)) (by decide +kernel)) (hev 0 (by decide)))⟩
    · exact ⟨adK 1, rfl, vk_R.of (hts (.stringRef "GuessedPlaceModel" 147 "run") (by decide +kernel)) (va_eqR (hs (.eq (.string "GuessedPlace$Teller" 153) (.string "GuessedPlaceModel" 147)) (by decide +kernel)) (hev 1 (by decide)))⟩
    · exact ⟨adK 2, rfl, vk_R.of (hts (.stringRef "GuessedPlaceModel" 149 "drop") (by decide +kernel)) (va_eqR (hs (.eq (.string "GuessedPlace$Teller" 155) (.string "GuessedPlaceModel" 149)) (by decide +kernel)) (hev 2 (by decide)))⟩
    · exact ⟨adK 3, rfl, vk_R.of (hts (.stringRef "GuessedPlaceModel" 151 "slack") (by decide +kernel)) (va_eqR (hs (.eq (.string "GuessedPlace$Teller" 157) (.string "GuessedPlaceModel" 151)) (by decide +kernel)) (hev 3 (by decide)))⟩
    · exact ⟨adK 4, rfl, vk_R.of (hts (.stringRef "GuessedPlaceModel" 153 "upper") (by decide +kernel)) (va_eqR (hs (.eq (.string "GuessedPlace$Teller" 159) (.string "GuessedPlaceModel" 153)) (by decide +kernel)) (hev 4 (by decide)))⟩
    · exact ⟨adK 5, rfl, vk_R.of (hts (.stringRef "GuessedPlaceModel" 155 "room") (by decide +kernel)) (va_eqR (hs (.eq (.string "GuessedPlace$Teller" 161) (.string "GuessedPlaceModel" 155)) (by decide +kernel)) (hev 5 (by decide)))⟩
  · intro w hw
    have hw2 : w ∈ lw_tbl := by
      revert w
      decide +kernel
    simp only [zv_nw, List.mem_cons, List.not_mem_nil, or_false] at hw
    have h9 := hts w hw2
    rcases hw with rfl | rfl | rfl | rfl | rfl | rfl | rfl | rfl | rfl | rfl | rfl | rfl | rfl | rfl | rfl | rfl | rfl <;> exact va_Nw.of rfl h9
  · exact va_AO.of (hts (.arrayOver (.object "GuessedPlace$Level")) (by decide +kernel))
  · exact zAO2 (hts (.arrayOver (.array .int)) (by decide +kernel))
  · exact zAO2 (hts (.arrayOver (.array .long)) (by decide +kernel))
  · exact ⟨t1, cell, rfl, F⟩
end
section
set_option maxHeartbeats 4000000 in
/-- THE LAW, from its entry, out of the pure run -/
theorem zstart {p : Program} {e : Env} {s : State} {m : MethodId} {below : List Frame} {meth : Method} {c : Code} (l : Launch) {b L : Nat} {xs : Nat → Int32} (hblk : ∀ m, m < 210 → ∀ lb b, zv_blk m lb = some b → zchkb m (lb, b) = true) (hmna : zMNA) (hL : L ≤ 3072) (C0 : lw_At p s m meth c b L xs) (hp : zPure (L, xs)) : W p l e room_1 s m #[Value.ref b] below meth c s.heap [] 0 0 (lw_Z below #[Value.ref b] s) (entryFrame m ([Value.ref b] : List Value).toArray 4) := by
  obtain ⟨hx, hb, hr, hml, hown, hts, hX, hbl, hlocks, hgv⟩ := id C0
  obtain ⟨ov, e0, hov, hG⟩ := zst_G hL hts hX hbl hgv
  obtain ⟨cA, hcA⟩ := zst_A hts
  obtain ⟨D, hD⟩ := zst_D hts
  obtain ⟨μe, hrun, hlen, hsl⟩ := hp
  obtain ⟨n, hn⟩ := zR_to hrun
  have C : zCx (L, xs) s.heap.size ov cA D 0 0 (some (.int 1), μe) 209 p room_1 s m #[Value.ref b] meth c := ⟨hx, hb, hml, hown, fun w hw => hts w (List.mem_filter.mp hw).1, hr, hlocks, fun h9 => absurd h9 (by decide +kernel), by decide +kernel, by decide +kernel, ⟨hD, hcA⟩, hG, rfl, by show μe.1.length ≤ 0 + 600000; omega, by show zsl μe.1 ≤ 0 + 7302250; omega, hov⟩
  have hR : zRet s.heap.size ov cA D 0 0 (some (.int 1), μe) 209 p l e room_1 s m #[Value.ref b] below meth c (lw_Z below #[Value.ref b] s) := by
    intro pc H locs rl hP hS _ _ hd
    refine va_forget (fun q hq => hS.2.2 q hq) ?_
    refine W.widen (k := 600000) (n := 7302250) (by show μe.1.length - 0 ≤ _; omega) (by show zsl μe.1 - 0 ≤ _; omega) ?_
    exact lw_ret hx hb hr hlocks hd.1
  have g := zmain hov hblk hmna n (by decide) C hR 0 _ _ _ hn
  rw [lg_entry_eq]
  have hl := lv_entry ([.ref b]) (n := 4) (Nat.le_of_ble_eq_true rfl)
  refine g.2 s.heap [] _ (Nat.le_refl _) (Nat.le_refl _) (fun k q h9 => by simp [zws, zμ0] at h9) va_S.rf (zal_sub hl (fun j v hv => ?_)) rfl
  match j, hv with
  | 0, hv =>
    cases hv
    show (0, ov 0) ∈ _
    rw [e0]
    exact List.mem_cons_self
  | 1, hv => cases hv
  | 2, hv => cases hv
  | 3, hv => cases hv
  | j + 4, hv => simp at hv
end
section
/-! new T[n][m] -/
def zm_o (cO : ClassId) (N h0 i : Nat) : Cell := arrV cO N (fun j => va_rf (if j < i then some (h0 + 1 + j) else none))
def zm_i (cI : ClassId) (M : Nat) (dv : Value) : Cell := arrV cI M (fun _ => dv)
def zm_f (T : State) (cO cI : ClassId) (N M : Nat) (dv : Value) : Nat → State
  | 0 => T.pushCell (zm_o cO N T.heap.size 0)
  | i + 1 => ((zm_f T cO cI N M dv i).pushCell (zm_i cI M dv)).setCell T.heap.size (zm_o cO N T.heap.size (i + 1))
theorem zm_o0 (cO : ClassId) (N h0 : Nat) : ({ cls := cO, slots := Array.replicate N .null, vm := .none } : Cell) = zm_o cO N h0 0 := by
  rw [arrV_new]
  unfold zm_o
  congr 1
theorem zm_i0 (cI : ClassId) (M : Nat) (dv : Value) : ({ cls := cI, slots := Array.replicate M dv, vm := .none } : Cell) = zm_i cI M dv := arrV_new _ _ _
theorem zm_oS (cO : ClassId) (N h0 i : Nat) : (zm_o cO N h0 i).setSlot i (.ref (h0 + 1 + i)) = zm_o cO N h0 (i + 1) := by
  unfold zm_o
  rw [arrV_store]
  congr 1
  funext j
  by_cases e : j = i
  · subst e
    simp [updV, va_rf]
  · by_cases h : j < i
    · simp [updV, e, h, Nat.lt_succ_of_lt h]
    · simp [updV, e, h, show ¬ j < i + 1 by omega]
theorem zm_facts (T : State) (cO cI : ClassId) (N M : Nat) (dv : Value) : ∀ i, (zm_f T cO cI N M dv i).heap.size = T.heap.size + 1 + i ∧ (zm_f T cO cI N M dv i).heap[T.heap.size]? = some (zm_o cO N T.heap.size i) ∧ (zm_f T cO cI N M dv i).vm = T.vm ∧ (zm_f T cO cI N M dv i).slotsUsed = T.slotsUsed + N + i * M
  | 0 => ⟨by simp [zm_f], by simp [zm_f], rfl, by simp [zm_f, zm_o, arrV_size]⟩
  | i + 1 => by
    obtain ⟨a, b, d, u⟩ := zm_facts T cO cI N M dv i
    have hlt : T.heap.size < (zm_f T cO cI N M dv i).heap.size := by omega
    have hb' : ((zm_f T cO cI N M dv i).pushCell (zm_i cI M dv)).heap[T.heap.size]? = some (zm_o cO N T.heap.size i) := by rw [State.heap_pushCell_of_lt (h := hlt)]; exact b
    refine ⟨?_, State.heap_setCell_self hb', by simp [zm_f, d], ?_⟩
    · simp [zm_f, State.setCell, a]; omega
    · simp [zm_f, u, zm_i, arrV_size, Nat.succ_mul]; omega
theorem zm_setTop (T : State) (f : JFrame) (cO cI : ClassId) (N M : Nat) (dv : Value) : ∀ i, zm_f (T.setTop f) cO cI N M dv i = (zm_f T cO cI N M dv i).setTop f
  | 0 => rfl
  | i + 1 => by simp only [zm_f, zm_setTop T f cO cI N M dv i, State.heap_setTop, State.pushCell_setTop, State.setCell_setTop]
theorem zm_old (T : State) (cO cI : ClassId) (N M : Nat) (dv : Value) {a : Nat} (ha : a < T.heap.size) : ∀ i, (zm_f T cO cI N M dv i).heap[a]? = T.heap[a]?
  | 0 => State.heap_pushCell_of_lt _ _ ha
  | i + 1 => by
    have f1 := (zm_facts T cO cI N M dv i).1
    have hlt : a < (zm_f T cO cI N M dv i).heap.size := Nat.lt_of_lt_of_le ha (by rw [f1]; omega)
    show (((zm_f T cO cI N M dv i).pushCell (zm_i cI M dv)).setCell T.heap.size _).heap[a]? = _
    rw [State.heap_setCell_other (Nat.ne_of_gt ha), State.heap_pushCell_of_lt (h := hlt)]
    exact zm_old T cO cI N M dv ha i
theorem zm_in (T : State) (cO cI : ClassId) (N M : Nat) (dv : Value) : ∀ i j, j < i → (zm_f T cO cI N M dv i).heap[T.heap.size + 1 + j]? = some (zm_i cI M dv)
  | 0, _, h => absurd h (Nat.not_lt_zero _)
  | i + 1, j, h => by
    have f1 := (zm_facts T cO cI N M dv i).1
    show (((zm_f T cO cI N M dv i).pushCell (zm_i cI M dv)).setCell T.heap.size _).heap[T.heap.size + 1 + j]? = _
    rw [State.heap_setCell_other (show T.heap.size ≠ T.heap.size + 1 + j by omega)]
    rcases Nat.lt_or_ge j i with hj | hj
    · have hlt : T.heap.size + 1 + j < (zm_f T cO cI N M dv i).heap.size := by rw [f1]; omega
      rw [State.heap_pushCell_of_lt (h := hlt)]
      exact zm_in T cO cI N M dv i j hj
    · have e : j = i := by omega
      subst e
      rw [← f1]
      exact State.heap_pushCell_size _ _
section ZMNA
variable {p : Program} {l : Launch} {e : Env} {R : Room} {s : State} {m : MethodId} {args : Array Value} {below : List Frame} {meth : Method} {c : Code} {T : State} {locs : List Loc} {cells slots : Nat}
theorem zm_stand (X : Stand p l e R s m args below meth c T locs cells slots) (cO cI : ClassId) (N M : Nat) (dv : Value) : ∀ i, Stand p l e R s m args below meth c (zm_f T cO cI N M dv i) (locs ++ (List.range i).map fun j => ⟨T.heap.size, j⟩) (cells + 1 + i) (slots + N + i * M)
  | 0 => by
    have h := X.pushed (zm_o cO N T.heap.size 0)
    have e0 : (zm_o cO N T.heap.size 0).slots.size = N := arrV_size _ _ _
    rw [e0] at h
    simpa [zm_f] using h
  | i + 1 => by
    have Xi := zm_stand X cO cI N M dv i
    obtain ⟨f1, f2, f3, f4⟩ := zm_facts T cO cI N M dv i
    have hlt0 : T.heap.size < (zm_f T cO cI N M dv i).heap.size := by rw [f1]; omega
    have hcell : ((zm_f T cO cI N M dv i).pushCell (zm_i cI M dv)).heap[T.heap.size]? = some (zm_o cO N T.heap.size i) := by rw [State.heap_pushCell_of_lt (h := hlt0)]; exact f2
    have h := (Xi.pushed (zm_i cI M dv)).stored hcell i (.ref (T.heap.size + 1 + i))
    have e1 : (zm_i cI M dv).slots.size = M := arrV_size _ _ _
    rw [e1, zm_oS] at h
    have e2 : (locs ++ (List.range (i + 1)).map fun j => (⟨T.heap.size, j⟩ : Loc)) = (locs ++ (List.range i).map fun j => (⟨T.heap.size, j⟩ : Loc)) ++ [⟨T.heap.size, i⟩] := by simp [List.range_succ, List.append_assoc]
    have e3 : slots + N + (i + 1) * M = slots + N + i * M + M := by rw [Nat.succ_mul]; omega
    rw [e2, e3]
    exact h
end ZMNA
section ZMNA2
variable {E : CtlPost} {e : Env} {d : Bool} {acts : List Action} {s : State}
theorem zm_wpNew {c9 comp : ClassId} {k : Class} {type : FieldType} {len : Nat} {init : Value} (hk : s.vm.classes[c9]? = some k) (hkind : k.kind = .array comp type) (hlimit : ¬ len > e.platform.arrayLengthLimit) (hheap : ¬ len * componentBytes type > e.platform.maxHeapBytes) (hfit : fits type init = true) (hdef : init.isDefault = true) {Q : Addr → Pre}
    (h1 : s.heap.size < e.platform.maxCells) (h2 : s.slotsUsed + len ≤ e.platform.maxSlots) (hq : Q s.heap.size d acts (s.pushCell { cls := c9, slots := Array.replicate len init, vm := .none })) : wp (Jvm.newArray c9 len init) Q E e d acts s := by
  have hfits : ∀ i v, (Array.replicate len init)[i]? = some v → s.fitsSlot c9 .none i v = true := by
    intro i v hv
    simp only [Array.getElem?_replicate] at hv
    split at hv
    · cases hv; simp [State.fitsSlot, State.slotType?, hk, hkind, hfit]
    · cases hv
  have hda : allocActs (Array.replicate len init) s.heap.size acts = acts := by
    have hall : ((Array.replicate len init).all (·.isDefault)) = true := by
      rw [Array.all_replicate]; split <;> simp [hdef]
    unfold allocActs; rw [if_pos hall]
  simp only [Jvm.newArray, Jvm.arrayFits, wp_bind', W.ask, W.ite, hlimit, if_false, wp_pure', W.theClass, hk, hkind, hheap, W.alloc, W.stop, Option.some.injEq, exists_eq_left', Array.size_replicate, hda]
  rw [if_neg (by omega)]
  exact ⟨h1, h2, hfits, hq⟩
theorem zm_wpRow {cI c2 : ClassId} {kc : Class} {type : FieldType} {q : Int32} (hkc : s.vm.classes[cI]? = some kc) (hkindc : kc.kind = .array c2 type) (hq0 : ¬ q < 0) (hl2 : ¬ q.toNatClampNeg > e.platform.arrayLengthLimit) (hh2 : ¬ q.toNatClampNeg * componentBytes type > e.platform.maxHeapBytes) (hdf : fits type (defaultValue type) = true) (hdd : (defaultValue type).isDefault = true)
    (h1 : s.heap.size < e.platform.maxCells) (h2 : s.slotsUsed + q.toNatClampNeg ≤ e.platform.maxSlots) {Q : Addr → Pre} (hq : Q s.heap.size d acts (s.pushCell (zm_i cI q.toNatClampNeg (defaultValue type)))) : wp (multianewarray.make cI [q]) Q E e d acts s := by
  rw [multianewarray.make]
  simp only [wp_bind', W.ite, hq0, if_false, wp_pure', W.theClass, hkc, hkindc, Option.some.injEq, exists_eq_left']
  refine zm_wpNew hkc hkindc hl2 hh2 hdf hdd h1 h2 ?_
  rw [zm_i0]
  exact hq
theorem zm_ref {t : FieldType} (h : t.isReference = true) (v : Value) (hv : v = .null ∨ ∃ a, v = .ref a) : fits t v = true := by
  rcases hv with rfl | ⟨a, rfl⟩ <;> cases t <;> simp [FieldType.isReference] at h <;> rfl
theorem zm_wp {cO cI c2 : ClassId} {k kc : Class} {t0 type : FieldType} {n q : Int32} (hk : s.vm.classes[cO]? = some k) (hkind : k.kind = .array cI t0) (href : t0.isReference = true) (hkc : s.vm.classes[cI]? = some kc) (hkindc : kc.kind = .array c2 type) (hn : ¬ n < 0) (hq0 : ¬ q < 0)
    (hl1 : ¬ n.toNatClampNeg > e.platform.arrayLengthLimit) (hh1 : ¬ n.toNatClampNeg * componentBytes t0 > e.platform.maxHeapBytes) (hl2 : ¬ q.toNatClampNeg > e.platform.arrayLengthLimit) (hh2 : ¬ q.toNatClampNeg * componentBytes type > e.platform.maxHeapBytes) (hdf : fits type (defaultValue type) = true) (hdd : (defaultValue type).isDefault = true)
    (hc : s.heap.size + 1 + n.toNatClampNeg ≤ e.platform.maxCells) (hs : s.slotsUsed + n.toNatClampNeg + n.toNatClampNeg * q.toNatClampNeg ≤ e.platform.maxSlots) {Q : Addr → Pre} (hq : ∀ d' acts', Q s.heap.size d' acts' (zm_f s cO cI n.toNatClampNeg q.toNatClampNeg (defaultValue type) n.toNatClampNeg)) : wp (multianewarray.make cO [n, q]) Q E e d acts s := by
  have hfind : ([q].find? (· < 0)) = none := by simp [hq0]
  rw [multianewarray.make]
  simp only [wp_bind', W.ite, hn, if_false, wp_pure', W.theClass, hk, hkind, Option.some.injEq, exists_eq_left']
  refine zm_wpNew hk hkind hl1 hh1 (zm_ref href _ (Or.inl rfl)) rfl (by omega) (by have := Nat.zero_le (n.toNatClampNeg * q.toNatClampNeg); omega) ?_
  rw [zm_o0 cO n.toNatClampNeg s.heap.size]
  simp only [hfind]
  rw [ite_self, wp_bind', Std.Legacy.Range.forIn_eq_forIn_range']
  have hsz : ([:n.toNatClampNeg] : Std.Legacy.Range).size = n.toNatClampNeg := by simp [Std.Legacy.Range.size]
  rw [hsz]
  show wp (forIn (List.range' 0 n.toNatClampNeg 1) PUnit.unit _) _ E e d acts _
  refine wp_forIn_inv (fun rest s' => ∃ i, i ≤ n.toNatClampNeg ∧ rest = List.range' i (n.toNatClampNeg - i) ∧ s' = zm_f s cO cI n.toNatClampNeg q.toNatClampNeg (defaultValue type) i) _ _ ⟨0, Nat.zero_le _, rfl, rfl⟩ ?_ ?_
  · rintro x rest s' d' acts' Q' ⟨i, hi, hl, rfl⟩ hnext
    have hlt : i < n.toNatClampNeg := by
      rcases Nat.lt_or_ge i n.toNatClampNeg with h | h
      · exact h
      · rw [show n.toNatClampNeg - i = 0 from by omega] at hl; simp at hl
    obtain ⟨rfl, hrest⟩ : x = i ∧ rest = List.range' (i + 1) (n.toNatClampNeg - (i + 1)) := by
      rw [show n.toNatClampNeg - i = (n.toNatClampNeg - (i + 1)) + 1 from by omega, List.range'_succ] at hl
      exact ⟨(List.cons.inj hl).1, (List.cons.inj hl).2⟩
    obtain ⟨f1, f2, f3, f4⟩ := zm_facts s cO cI n.toNatClampNeg q.toNatClampNeg (defaultValue type) x
    have hmul : x * q.toNatClampNeg + q.toNatClampNeg ≤ n.toNatClampNeg * q.toNatClampNeg := by
      have := Nat.mul_le_mul_right q.toNatClampNeg (show x + 1 ≤ n.toNatClampNeg from hlt)
      rw [Nat.succ_mul] at this; exact this
    simp only [wp_bind']
    refine zm_wpRow (by rw [f3]; exact hkc) hkindc hq0 hl2 hh2 hdf hdd (by rw [f1]; omega) (by rw [f4]; omega) ?_
    have hlt0 : s.heap.size < (zm_f s cO cI n.toNatClampNeg q.toNatClampNeg (defaultValue type) x).heap.size := by rw [f1]; omega
    have e2 : (zm_o cO n.toNatClampNeg s.heap.size x).vm = .none := rfl
    have e3 : (zm_o cO n.toNatClampNeg s.heap.size x).slots.size = n.toNatClampNeg := arrV_size _ _ _
    have e1 : (zm_o cO n.toNatClampNeg s.heap.size x).cls = cO := rfl
    simp only [wp_bind', W.writeLoc, wp_pure']
    refine ⟨zm_o cO n.toNatClampNeg s.heap.size x, by rw [State.heap_pushCell_of_lt (h := hlt0)]; exact f2, by rw [e2]; simp, by rw [e3]; exact hlt, ?_, hnext _ _ _ ⟨x + 1, hlt, hrest, ?_⟩⟩
    · rw [e1, e2]
      simp [State.fitsSlot, State.slotType?, f3, hk, hkind, zm_ref href _ (Or.inr ⟨_, rfl⟩)]
    · rw [f1, zm_oS]; rfl
  · rintro s' d' acts' ⟨i, hi, hl, rfl⟩
    have hiN : i = n.toNatClampNeg := by
      rcases Nat.lt_or_ge i n.toNatClampNeg with h | h
      · rw [show n.toNatClampNeg - i = (n.toNatClampNeg - (i + 1)) + 1 from by omega, List.range'_succ] at hl; cases hl
      · omega
    subst hiN
    simp only [wp_pure']
    exact hq _ _
end ZMNA2
section ZMNA3
variable {p : Program} {l : Launch} {e : Env} {R : Room} {s : State} {m : MethodId} {args : Array Value} {below : List Frame} {meth : Method} {c : Code} {H : Heap} {locs : List Loc} {cells slots : Nat} {Q : State → Prop}
theorem zm_W (hexec : p.tables.exec = Jvm.exec) {cc : ByteArray} (hb : c.code = cc) {own : String} {index : Nat} {ty : FieldType} {cO cI c2 : ClassId} {kO kI : Class} (hown : s.vm.findClass own = some m.cls) (hclink : (Cond.classLink own index ("[" ++ (FieldType.array ty).toString)).before args s = true) (fO : s.vm.findClass ("[" ++ (FieldType.array ty).toString) = some cO) (hkO : s.vm.classes[cO]? = some kO) (hkindO : kO.kind = .array cI (.array ty)) (hkI : s.vm.classes[cI]? = some kI) (hkindI : kI.kind = .array c2 ty)
    {pc : Nat} {ls : Array Slot} {rest : List Value} {n k : Int32} (hn : ¬ n < 0) (hk : ¬ k < 0) (hb1 : n.toNatClampNeg * 4 ≤ 536870912) (hb2 : k.toNatClampNeg * componentBytes ty ≤ 536870912) (hb3 : k.toNatClampNeg ≤ 536870912) (hdf : fits ty (defaultValue ty) = true) (hdd : (defaultValue ty).isDefault = true)
    (hcells : cells + (1 + n.toNatClampNeg) ≤ R.cells) (hslots : slots + (n.toNatClampNeg + n.toNatClampNeg * k.toNatClampNeg) ≤ R.slots) (hdg : decode cc pc = .ok (.multianewarray index 2, 4))
    (kk : ∀ H1 : Heap, (∀ x : Nat, x < H.size → H1[x]? = H[x]?) → H1.size = H.size + 1 + n.toNatClampNeg → H1[H.size]? = some (zm_o cO n.toNatClampNeg H.size n.toNatClampNeg) → (∀ j : Nat, j < n.toNatClampNeg → H1[H.size + 1 + j]? = some (zm_i cI k.toNatClampNeg (defaultValue ty))) → W p l e R s m args below meth c H1 (locs ++ (List.range n.toNatClampNeg).map fun j => ⟨H.size, j⟩) (cells + 1 + n.toNatClampNeg) (slots + n.toNatClampNeg + n.toNatClampNeg * k.toNatClampNeg) Q (F0 m (pc + 4) ls (.ref H.size :: rest))) :
    W p l e R s m args below meth c H locs cells slots Q (F0 m pc ls (.int k :: .int n :: rest)) := by
  intro T hT X
  subst hT; subst hb
  have hpl : e.platform.magicAccessors = ({} : Platform).magicAccessors := by rw [X.admits.platform]
  obtain ⟨c0, hfc0, hcl⟩ := Cond.classLink_spec hown hclink e.platform hpl
  cases fO.symm.trans hfc0
  obtain ⟨hg₁, hwarm₁, hready₁⟩ := State.classEntry (e := e) X.warmed hcl
  generalize T.vm.noted m.cls index (.cls cO) = vm₁ at hg₁ hwarm₁ hready₁
  have hal : s.vm.Alike vm₁ := hwarm₁.alike
  obtain ⟨kA₁, hkA₁, heA⟩ := hal.2.2 _ _ hkO
  obtain ⟨kC₁, hkC₁, heC⟩ := hal.2.2 _ _ hkI
  have hkindA₁ : kA₁.kind = .array cI (.array ty) := by rw [heA]; exact hkindO
  have hkindC₁ : kC₁.kind = .array c2 ty := by rw [heC]; exact hkindI
  have X₁ := X.noted hwarm₁
  obtain ⟨hr1, hr2⟩ := X.roomAbove hcells hslots
  have XF := zm_stand X₁ cO cI n.toNatClampNeg k.toNatClampNeg (defaultValue ty) n.toNatClampNeg
  obtain ⟨f1, f2, -, -⟩ := zm_facts (T.setVm vm₁) cO cI n.toNatClampNeg k.toNatClampNeg (defaultValue ty) n.toNatClampNeg
  obtain ⟨t, a1, b1⟩ := kk (zm_f (T.setVm vm₁) cO cI n.toNatClampNeg k.toNatClampNeg (defaultValue ty) n.toNatClampNeg).heap (fun x hx => zm_old (T.setVm vm₁) cO cI _ _ _ (a := x) hx _) f1 f2 (fun j hj => zm_in (T.setVm vm₁) cO cI _ _ _ _ j hj) _ rfl XF
  refine ⟨t, ?_, b1⟩
  have hl1 : ¬ n.toNatClampNeg > e.platform.arrayLengthLimit := by rw [Launch.admits_arrayLengthLimit X.admits]; omega
  have hh1 : ¬ n.toNatClampNeg * componentBytes (.array ty) > e.platform.maxHeapBytes := by
    rw [Launch.admits_maxHeapBytes X.admits]; show ¬ n.toNatClampNeg * 4 > 536870912; omega
  have hl2 : ¬ k.toNatClampNeg > e.platform.arrayLengthLimit := by rw [Launch.admits_arrayLengthLimit X.admits]; omega
  have hh2 : ¬ k.toNatClampNeg * componentBytes ty > e.platform.maxHeapBytes := by rw [Launch.admits_maxHeapBytes X.admits]; omega
  jvm_step X.here [hexec, hdg, F0]
  simp only [multianewarray.sem, wp_bind', W.resolveClassAt_links (State.method?_setTop (F0 m pc ls (.int k :: .int n :: rest)) X.here.top) hg₁]
  rw [W.popN, if_neg (by decide)]
  refine ⟨F0 m pc ls (.int k :: .int n :: rest), State.topJava?_setTop' (s := T.setVm vm₁) (F0 m pc ls (.int k :: .int n :: rest)) X.here.top, [.int n, .int k], rest, rfl, rfl, ?_⟩
  simp only [List.mapM_cons, List.mapM_nil, wp_bind', wp_pure']
  refine zm_wp (k := kA₁) (kc := kC₁) (cI := cI) (c2 := c2) (t0 := .array ty) (type := ty) hkA₁ hkindA₁ rfl hkC₁ hkindC₁ hn hk hl1 hh1 hl2 hh2 hdf hdd (by show T.heap.size + 1 + _ ≤ _; omega) (by show T.slotsUsed + _ + _ ≤ _; omega) (fun d' acts' => ?_)
  have eS : ((T.setTop (F0 m pc ls (.int k :: .int n :: rest))).setVm vm₁).setTop (F0 m pc ls rest) = (T.setVm vm₁).setTop (F0 m pc ls rest) := by
    show ((T.setVm vm₁).setTop _).setTop _ = _
    rw [State.setTop_setTop]
  change wp _ _ _ _ _ _ (zm_f (((T.setTop (F0 m pc ls (.int k :: .int n :: rest))).setVm vm₁).setTop (F0 m pc ls rest)) _ _ _ _ _ _)
  rw [eS, zm_setTop]
  simp only [wp_bind', W.mark, W.pushRef, State.topJava?_setTop' _ XF.here.top, Option.some.injEq, exists_eq_left', State.setTop_setTop, State.heap_setTop]
  intro acts
  simp [jvm, XF.here.top]
  exact a1
end ZMNA3
/-! the small memory's side -/
theorem zmks_1 (sh : (Nat × Nat) ⊕ Nat) : ∀ (n : Nat) (μ : zv_M), (zv_mks sh n μ).1 = μ.1 ++ List.replicate n sh
  | 0, μ => by simp [zv_mks]
  | n + 1, μ => by
    show (zv_mks sh n (zv_mk μ sh)).1 = _
    rw [zmks_1 sh n, zmk_1, List.append_assoc, List.replicate_succ]; rfl
theorem zmks_old (sh : (Nat × Nat) ⊕ Nat) : ∀ (n : Nat) (μ : zv_M) (j : Nat), j < μ.1.length → (zv_mks sh n μ).2.1 j = μ.2.1 j ∧ (zv_mks sh n μ).2.2.1 j = μ.2.2.1 j ∧ (zv_mks sh n μ).2.2.2 j = μ.2.2.2 j
  | 0, μ, j, _ => ⟨rfl, rfl, rfl⟩
  | n + 1, μ, j, h => by
    show (zv_mks sh n (zv_mk μ sh)).2.1 j = _ ∧ (zv_mks sh n (zv_mk μ sh)).2.2.1 j = _ ∧ (zv_mks sh n (zv_mk μ sh)).2.2.2 j = _
    obtain ⟨a1, a2, a3⟩ := zmks_old sh n (zv_mk μ sh) j (by rw [zmk_len]; omega)
    obtain ⟨b1, b2, b3⟩ := zmk_old (sh := sh) h
    exact ⟨a1.trans b1, a2.trans b2, a3.trans b3⟩
theorem zmks_new (sh : (Nat × Nat) ⊕ Nat) : ∀ (n : Nat) (μ : zv_M) (j : Nat), j < n → (zv_mks sh n μ).2.1 (μ.1.length + j) = (fun _ => 0) ∧ (zv_mks sh n μ).2.2.1 (μ.1.length + j) = fun _ => 0
  | 0, _, _, h => absurd h (Nat.not_lt_zero _)
  | n + 1, μ, j, h => by
    show (zv_mks sh n (zv_mk μ sh)).2.1 _ = _ ∧ (zv_mks sh n (zv_mk μ sh)).2.2.1 _ = _
    cases j with
    | zero =>
      obtain ⟨a1, a2, -⟩ := zmks_old sh n (zv_mk μ sh) (μ.1.length + 0) (by rw [zmk_len]; omega)
      exact ⟨a1.trans zmk_I, a2.trans zmk_L⟩
    | succ j =>
      have g := zmks_new sh n (zv_mk μ sh) j (by omega)
      rw [zmk_len] at g
      rw [show μ.1.length + (j + 1) = μ.1.length + 1 + j by omega]
      exact g
theorem zsl_rep (t k : Nat) : ∀ n, zsl (List.replicate n (.inl (t, k))) = n * k
  | 0 => by simp [zsl]
  | n + 1 => by rw [List.replicate_succ, zsl, zsl_rep t k n, Nat.succ_mul]; show k + n * k = _; omega
theorem zchk_mna {m pc idx dm : Nat} {d : List Nat} (hc : zchk m (pc, .multianewarray idx dm, d) = true) : zdec m (pc, .multianewarray idx dm, d) 4 = true ∧ dm = 2 ∧ ∀ ot it, d = [ot, it] → zt_q.any (fun q => q.1 == zow m && q.2.1 == idx && q.2.2.1 == ot) = true := by
  obtain ⟨a1, a2⟩ := zand hc
  obtain ⟨a3, a4⟩ := zand a2
  refine ⟨a1, of_decide_eq_true a3, ?_⟩
  rintro ot it rfl
  exact a4
theorem zmna : zMNA := by
  intro X s0 ov cA D n0 z0 res m p e R s mid args below meth c Q l C pc idx dm d ls st μ k hc h hk
  obtain ⟨a1, a5, a4⟩ := zchk_mna hc
  subst a5
  have hd := zdec_ok a1
  have hsh : ∃ (k' n : Int32) (st' : List Value) (ot it : Nat), st = .int k' :: .int n :: st' ∧ d = [ot, it] := by
    clear hc a1 a4 hd
    unfold zv_op at h
    dsimp only at h
    split at h
    · exact ⟨_, _, _, _, _, rfl, rfl⟩
    · cases h
  obtain ⟨k', n, st, ot, it, rfl, rfl⟩ := hsh
  unfold zv_op at h
  dsimp only at h
  replace a4 := a4 _ _ rfl
  by_cases hb : n < 0 ∨ k' < 0 ∨ 1000 < n.toNatClampNeg ∨ 1000 < k'.toNatClampNeg ∨ ¬ ((ot = 5 ∧ it = 0) ∨ (ot = 6 ∧ it = 1))
  · rw [if_pos hb] at h
    cases h
  · rw [if_neg hb] at h
    have hb0 := hb
    · skip
      have hn : ¬ n < 0 := fun q => hb (Or.inl q)
      have hk0 : ¬ k' < 0 := fun q => hb (Or.inr (Or.inl q))
      have hn2 : n.toNatClampNeg ≤ 1000 := Nat.not_lt.mp fun q => hb (Or.inr (Or.inr (Or.inl q)))
      have hk2 : k'.toNatClampNeg ≤ 1000 := Nat.not_lt.mp fun q => hb (Or.inr (Or.inr (Or.inr (Or.inl q))))
      have hot : (ot = 5 ∧ it = 0) ∨ (ot = 6 ∧ it = 1) := Classical.byContradiction fun q => hb (Or.inr (Or.inr (Or.inr (Or.inr q))))
      obtain ⟨q, hq, e9⟩ := List.any_eq_true.mp a4
      simp only [Bool.and_eq_true, beq_iff_eq] at e9
      obtain ⟨⟨e1, e2⟩, e3⟩ := e9
      have h5 := List.all_eq_true.mp zt_q_ok q hq
      rw [e1, e2, e3] at h5
      have hlk := C.2.2.2.2.1 _ (zat_in h5 rfl)
      generalize hN : n.toNatClampNeg = N at h hn2
      generalize hM : k'.toNatClampNeg = K at h hk2
      generalize hμ1 : ((zv_mk μ (.inl (ot, N))).1, (zv_mk μ (.inl (ot, N))).2.1, (zv_mk μ (.inl (ot, N))).2.2.1, va_up μ.2.2.2 μ.1.length (fun j => if j < N then some (μ.1.length + 1 + j) else none)) = μ1 at h
      generalize hμ2 : zv_mks (.inl (it, K)) N μ1 = μ2 at h
      have g := hk _ _ _ h
      have l1 : μ1.1 = μ.1 ++ [.inl (ot, N)] := by rw [← hμ1]; rfl
      have l1' : μ1.1.length = μ.1.length + 1 := by rw [l1, List.length_append]; rfl
      have l2 : μ2.1 = μ.1 ++ (.inl (ot, N) :: List.replicate N (.inl (it, K))) := by rw [← hμ2, zmks_1, l1, List.append_assoc]; rfl
      have l2' : μ2.1.length = μ.1.length + 1 + N := by rw [l2, List.length_append, List.length_cons, List.length_replicate]; omega
      have s2 : zsl μ2.1 = zsl μ.1 + (N + N * K) := by rw [l2, zsl_app, zsl, zsl_rep]; rfl
      have o1 : ∀ j, j < μ.1.length → μ2.2.1 j = μ.2.1 j ∧ μ2.2.2.1 j = μ.2.2.1 j ∧ μ2.2.2.2 j = μ.2.2.2 j := by
        intro j hj
        obtain ⟨b1, b2, b3⟩ := zmks_old (.inl (it, K)) N μ1 j (by omega)
        rw [hμ2] at b1 b2 b3
        have hj' : j ≠ μ.1.length := Nat.ne_of_lt hj
        rw [b1, b2, b3, ← hμ1]
        simp [zv_mk, va_up, hj']
      have o2 : μ2.2.2.2 μ.1.length = fun j => if j < N then some (μ.1.length + 1 + j) else none := by
        obtain ⟨-, -, b3⟩ := zmks_old (.inl (it, K)) N μ1 μ.1.length (by omega)
        rw [hμ2] at b3
        rw [b3, ← hμ1]
        simp [va_up]
      have o3 : ∀ j, j < N → μ2.2.1 (μ.1.length + 1 + j) = (fun _ => 0) ∧ μ2.2.2.1 (μ.1.length + 1 + j) = fun _ => 0 := by
        intro j hj
        have b := zmks_new (.inl (it, K)) N μ1 j hj
        rw [hμ2, l1'] at b
        exact b
      refine ⟨⟨Nat.le_trans (by omega) g.1.1, Nat.le_trans (by omega) g.1.2⟩, fun H locs rl h1 h2 hP hS hl hL => ?_⟩
      have hc1 : μ.1.length - n0 + (1 + N) ≤ R.cells := by
        have a1 := g.1.1
        have a2 := C.2.2.2.2.2.2.2.2.2.2.2.2.2.1
        omega
      have hs1 : zsl μ.1 - z0 + (N + N * K) ≤ R.slots := by
        have a1 := g.1.2
        have a2 := C.2.2.2.2.2.2.2.2.2.2.2.2.2.2.1
        omega
      have hkb : ∀ ty : FieldType, K * componentBytes ty ≤ 536870912 := fun ty => by
        have : componentBytes ty ≤ 8 := by cases ty <;> first | decide | (simp only [componentBytes]; decide)
        exact Nat.le_trans (Nat.mul_le_mul hk2 this) (by decide)
      refine W_have (P := H.size = s0 + μ.1.length) (fun T hT X9 => ?_) (fun hsz => ?_)
      · have b1 := X9.heapSize
        have b2 := C.2.2.2.2.2.2.2.2.2.2.2.2.1
        rw [hT] at b1
        have b3 := hS.1
        by_cases hz : μ.1.length = 0
        · omega
        · have b4 := (hP _ _ (zws_get (s0 := s0) (cA := cA) (μ := μ) (k := μ.1.length - 1) (by omega))).lt
          have b5 : s0 + (μ.1.length - 1) < H.size := b4
          omega
      have fin : ∀ {ty : FieldType} {cO cI c2 : ClassId} {kO kI : Class}, (if ot = 5 then "[[I" else "[[J") = "[" ++ (FieldType.array ty).toString → cO = cA ot → cI = cA it → s.vm.findClass ("[" ++ (FieldType.array ty).toString) = some cO → s.vm.classes[cO]? = some kO → kO.kind = .array cI (.array ty) → s.vm.classes[cI]? = some kI → kI.kind = .array c2 ty → fits ty (defaultValue ty) = true → (defaultValue ty).isDefault = true → (∀ q9 : va_E, q9 = .inl (cA it, K, zdt s0 μ2 (μ.1.length + 1) it) → True) → (∀ j, j < N → vp_cell (cA it) (K, zdt s0 μ2 (μ.1.length + 1 + j) it) = zm_i (cA it) K (defaultValue ty)) → W p l e R s mid args below meth c H locs (μ.1.length - n0) (zsl μ.1 - z0) Q (F0 mid pc rl ((Value.int k' :: Value.int n :: st).map (zc s0 ov))) := by
        intro ty cO cI c2 kO kI et eO eI fO hkO hkindO hkI hkindI hdf hdd _ hrow
        subst eO eI
        rw [et] at hlk
        refine zm_W C.1 C.2.1 C.2.2.2.1 hlk fO hkO hkindO hkI hkindI hn hk0 (by rw [hN]; omega) (by rw [hM]; exact hkb _) (by rw [hM]; omega) hdf hdd (by rw [hN]; exact hc1) (by rw [hN, hM]; exact hs1) hd (fun H1 w1 w2 w3 w4 => ?_)
        rw [hN] at w2 w3 w4
        rw [hM] at w4
        rw [hN, hM]
        refine W.cs (cells' := μ2.1.length - n0) (slots' := zsl μ2.1 - z0) (by omega) (by omega) ?_
        have e8 : Value.ref H.size = zc s0 ov (.ref μ.1.length) := by rw [hsz]; rfl
        rw [e8]
        refine g.2 H1 _ rl (by omega) (by omega) ?_ ⟨by have := hS.1; omega, fun x x1 x2 => (w1 x (Nat.lt_of_lt_of_le x1 hS.1)).trans (hS.2.1 x x1 x2), fun y hy => ?_⟩ hl hL
        · intro i q hi
          obtain ⟨hil, rfl⟩ := zws_inv hi
          by_cases c1 : i < μ.1.length
          · have b4 := hP _ _ (zws_get (s0 := s0) (cA := cA) (μ := μ) c1)
            have b5 : s0 + i < H.size := b4.lt
            obtain ⟨x1, x2, x3⟩ := o1 i c1
            rw [zw_same (by rw [l2, List.getElem?_append_left c1]) x1 x2 x3]
            exact b4.kept (w1 _ b5)
          · by_cases c2 : i = μ.1.length
            · subst c2
              have y1 : μ2.1[μ.1.length]? = some (.inl (ot, N)) := by rw [l2, List.getElem?_append_right (Nat.le_refl _), Nat.sub_self]; rfl
              rw [zw_ar y1]
              show H1[s0 + μ.1.length]? = some (vp_cell _ _)
              rw [← hsz, w3]
              have y2 : zdt s0 μ2 μ.1.length ot = .inr (.inr (.inr (.inr (fun j => if j < N then some (H.size + 1 + j) else none)))) := by
                unfold zdt
                rw [if_neg (by omega), if_pos (by omega), o2]
                congr 4
                funext j
                by_cases c3 : j < N
                · simp [c3]; omega
                · simp [c3]
              rw [y2, vp_cell_q]
              unfold zm_o
              congr 1
            · obtain ⟨j, hj, rfl⟩ : ∃ j, j < N ∧ i = μ.1.length + 1 + j := ⟨i - (μ.1.length + 1), by omega, by omega⟩
              have y1 : μ2.1[μ.1.length + 1 + j]? = some (.inl (it, K)) := by
                rw [l2, List.getElem?_append_right (by omega), show μ.1.length + 1 + j - μ.1.length = j + 1 by omega, List.getElem?_cons_succ, List.getElem?_replicate, if_pos hj]
              rw [zw_ar y1]
              show H1[s0 + (μ.1.length + 1 + j)]? = some (vp_cell _ _)
              rw [show s0 + (μ.1.length + 1 + j) = H.size + 1 + j by omega, w4 j hj]
              exact congrArg some (hrow j hj).symm
        · rcases List.mem_append.mp hy with hy | hy
          · exact hS.2.2 y hy
          · obtain ⟨j, -, rfl⟩ := List.mem_map.mp hy
            show s0 ≤ H.size
            omega
      have G := C.2.2.2.2.2.2.2.2.2.2.2.1
      have KK := C.2.2.2.2.2.2.2.2.2.2.1
      rcases hot with ⟨rfl, rfl⟩ | ⟨rfl, rfl⟩
      · obtain ⟨c0, c5, kO, f0, f5, hkO, hkindO⟩ := G.2.2.2.2.2.2.1
        obtain ⟨A5, R5⟩ := KK.2 5 _ rfl
        obtain ⟨A0, R0⟩ := KK.2 0 _ rfl
        have ec5 : c5 = cA 5 := Option.some.inj (f5.symm.trans R5)
        have ec0 : c0 = cA 0 := Option.some.inj (f0.symm.trans R0)
        obtain ⟨-, kI, hkI, c2, hkindI⟩ := A0 0 (fun _ => .int 0)
        subst ec5 ec0
        refine fin (ty := .int) rfl rfl rfl f5 hkO hkindO hkI hkindI rfl rfl (fun _ _ => trivial) (fun j hj => ?_)
        rw [show zdt s0 μ2 (μ.1.length + 1 + j) 0 = .inl (fun _ => 0) by simp [zdt, (o3 j hj).1]]
        rfl
      · obtain ⟨c0, c5, kO, f0, f5, hkO, hkindO⟩ := G.2.2.2.2.2.2.2.1
        obtain ⟨A5, R5⟩ := KK.2 6 _ rfl
        obtain ⟨A0, R0⟩ := KK.2 1 _ rfl
        have ec5 : c5 = cA 6 := Option.some.inj (f5.symm.trans R5)
        have ec0 : c0 = cA 1 := Option.some.inj (f0.symm.trans R0)
        obtain ⟨-, kI, hkI, c2, hkindI⟩ := A0 0 (fun _ => .int 0)
        subst ec5 ec0
        refine fin (ty := .long) rfl rfl rfl f5 hkO hkindO hkI hkindI rfl rfl (fun _ _ => trivial) (fun j hj => ?_)
        rw [show zdt s0 μ2 (μ.1.length + 1 + j) 1 = .inr (.inl (fun _ => 0)) by simp [zdt, (o3 j hj).2]]
        rfl
end
section
/-! BLOCKS BY NAME: each block is a function of its live locals and the memory; its equation is by rfl -/
section ZGH
variable {α : Type}
def zv_rf (o : Option Nat) (k : Nat → Option α) : Option α := match o with
  | some p => k p
  | none => none
def zv_len (μ : zv_M) (a : Nat) (k : Nat → Option α) : Option α := match μ.1[a]? with
  | some (.inl (t, n)) => if t < 7 then k n else none
  | _ => none
def zv_cc (μ : zv_M) (a : Nat) (r : Option α) : Option α := match μ.1[a]? with
  | some (.inl (0, _)) => r
  | _ => none
def zv_sw (tg : List Nat) (i : Nat) (k : Nat → Option α) : Option α := match tg[i]? with
  | some l => k l
  | none => none
def zv_ac (μ : zv_M) (a : Nat) (sp : Int32) (b : Nat) (dp n : Int32) (ss : Nat) (k : zv_M → Option α) : Option α := match μ.1[a]?, μ.1[b]? with
  | some (.inl (0, na)), some (.inl (0, nb)) => if sp < 0 ∨ dp < 0 ∨ n < 0 ∨ na < sp.toNatClampNeg + n.toNatClampNeg ∨ nb < dp.toNatClampNeg + n.toNatClampNeg ∨ 8 < ss then none else
      k (zv_wA μ b (va_cpy (μ.2.1 a) (μ.2.1 b) sp.toNatClampNeg dp.toNatClampNeg n.toNatClampNeg))
  | _, _ => none
end ZGH
def zv_cd (m l k : Nat) : List zv_I := match zv_blk m l with
  | some b => b.2.drop k
  | none => []
def zv_i2b (x : Int32) : Int32 := x.toInt8.toInt32
def zv_i2c (x : Int32) : Int32 := (x.toUInt32 % 65536).toInt32
def zv_rb (v : Int32) (μ : zv_M) : Option zv_R := if v = 0 ∨ v = 1 then some (some (.int v), μ) else none
noncomputable def zg_Acts_init_0 (X : zv_X) (l0 : Nat) (M : zv_M) : Option zv_R := zR X (0, 0, [some (.ref l0)], [], M)
noncomputable def zg_Acts_copyFrom_0 (X : zv_X) (l0 l1 : Nat) (M : zv_M) : Option zv_R := zR X (1, 0, [some (.ref l0), some (.ref l1)], [], M)
noncomputable def zg_Acts_forget_0 (X : zv_X) (l0 : Nat) (M : zv_M) : Option zv_R := zR X (2, 0, [some (.ref l0)], [], M)
noncomputable def zg_Acts_note_0 (X : zv_X) (l0 : Nat) (l1 l2 : Int32) (M : zv_M) : Option zv_R := zR X (3, 0, [some (.ref l0), some (.int l1), some (.int l2)], [], M)
noncomputable def zg_Acts_note_45 (X : zv_X) (l0 : Nat) (l1 l2 : Int32) (M : zv_M) : Option zv_R := zR X (3, 45, [some (.ref l0), some (.int l1), some (.int l2)], [], M)
noncomputable def zg_Acts_step_0 (X : zv_X) (l0 : Nat) (l1 : Int32) (M : zv_M) : Option zv_R := zR X (4, 0, [some (.ref l0), some (.int l1)], [], M)
noncomputable def zg_Acts_step_13 (X : zv_X) (l0 : Nat) (M : zv_M) : Option zv_R := zR X (4, 13, [some (.ref l0), none], [], M)
noncomputable def zg_Acts_step_38 (X : zv_X) (l0 : Nat) (M : zv_M) : Option zv_R := zR X (4, 38, [some (.ref l0), none], [], M)
noncomputable def zg_Acts_step_47 (X : zv_X) (l0 : Nat) (M : zv_M) : Option zv_R := zR X (4, 47, [some (.ref l0), none], [], M)
noncomputable def zg_Cover_init_0 (X : zv_X) (l0 : Nat) (M : zv_M) : Option zv_R := zR X (5, 0, [some (.ref l0), none], [], M)
noncomputable def zg_Cover_over_0 (X : zv_X) (l0 l1 : Nat) (l2 l3 l4 : Int32) (M : zv_M) : Option zv_R := zR X (6, 0, [some (.ref l0), some (.ref l1), some (.int l2), some (.int l3), some (.int l4)], [], M)
noncomputable def zg_Cover_over_42 (X : zv_X) (l0 : Nat) (l4 : Int32) (s0 : Nat) (M : zv_M) : Option zv_R := zR X (6, 42, [some (.ref l0), none, none, none, some (.int l4)], [.ref s0], M)
noncomputable def zg_Cover_over_43 (X : zv_X) (l0 : Nat) (l4 s0 : Int32) (s1 : Nat) (M : zv_M) : Option zv_R := zR X (6, 43, [some (.ref l0), none, none, none, some (.int l4)], [.int s0, .ref s1], M)
noncomputable def zg_Cover_over_46 (X : zv_X) (l0 : Nat) (l4 : Int32) (M : zv_M) : Option zv_R := zR X (6, 46, [some (.ref l0), none, none, none, some (.int l4)], [], M)
noncomputable def zg_Cover_over_134 (X : zv_X) (M : zv_M) : Option zv_R := zR X (6, 134, [none, none, none, none, none], [], M)
noncomputable def zg_Cover_find_0 (X : zv_X) (l0 : Nat) (l1 : Int32) (M : zv_M) : Option zv_R := zR X (7, 0, [some (.ref l0), some (.int l1), none, none, none, none, none, none, none], [], M)
noncomputable def zg_Cover_find_14 (X : zv_X) (l0 : Nat) (l1 l2 l3 : Int32) (M : zv_M) : Option zv_R := zR X (7, 14, [some (.ref l0), some (.int l1), some (.int l2), some (.int l3), none, none, none, none, none], [], M)
noncomputable def zg_Cover_find_90 (X : zv_X) (l0 : Nat) (l1 l3 : Int32) (l4 : Nat) (l6 l7 : Int32) (M : zv_M) : Option zv_R := zR X (7, 90, [some (.ref l0), some (.int l1), none, some (.int l3), some (.ref l4), none, some (.int l6), some (.int l7), none], [], M)
noncomputable def zg_Cover_find_102 (X : zv_X) (l0 : Nat) (l1 l3 : Int32) (l4 : Nat) (l6 l7 : Int32) (M : zv_M) : Option zv_R := zR X (7, 102, [some (.ref l0), some (.int l1), none, some (.int l3), some (.ref l4), none, some (.int l6), some (.int l7), none], [], M)
noncomputable def zg_Cover_find_103 (X : zv_X) (l0 : Nat) (l1 l3 : Int32) (l4 : Nat) (l6 l7 s0 : Int32) (M : zv_M) : Option zv_R := zR X (7, 103, [some (.ref l0), some (.int l1), none, some (.int l3), some (.ref l4), none, some (.int l6), some (.int l7), none], [.int s0], M)
noncomputable def zg_Cover_find_133 (X : zv_X) (l2 : Int32) (M : zv_M) : Option zv_R := zR X (7, 133, [none, none, some (.int l2), none, none, none, none, none, none], [], M)
noncomputable def zg_Cover_findPlainly_0 (X : zv_X) (l0 : Nat) (l1 : Int32) (M : zv_M) : Option zv_R := zR X (8, 0, [some (.ref l0), some (.int l1)], [], M)
noncomputable def zg_Cover_halve_0 (X : zv_X) (l0 l1 : Nat) (l2 l3 l4 : Int32) (M : zv_M) : Option zv_R := zR X (9, 0, [some (.ref l0), some (.ref l1), some (.int l2), some (.int l3), some (.int l4), none, none, none, none], [], M)
noncomputable def zg_Cover_halve_14 (X : zv_X) (l0 l1 : Nat) (l4 l5 l6 l7 : Int32) (M : zv_M) : Option zv_R := zR X (9, 14, [some (.ref l0), some (.ref l1), none, none, some (.int l4), some (.int l5), some (.int l6), some (.int l7), none], [], M)
noncomputable def zg_Cover_halve_65 (X : zv_X) (l0 l1 : Nat) (l4 l5 l7 l8 : Int32) (M : zv_M) : Option zv_R := zR X (9, 65, [some (.ref l0), some (.ref l1), none, none, some (.int l4), some (.int l5), none, some (.int l7), some (.int l8)], [], M)
noncomputable def zg_Cover_halve_69 (X : zv_X) (l0 l1 : Nat) (l4 l5 l6 l7 : Int32) (M : zv_M) : Option zv_R := zR X (9, 69, [some (.ref l0), some (.ref l1), none, none, some (.int l4), some (.int l5), some (.int l6), some (.int l7), none], [], M)
noncomputable def zg_Cover_halve_75 (X : zv_X) (l5 : Int32) (M : zv_M) : Option zv_R := zR X (9, 75, [none, none, none, none, none, some (.int l5), none, none, none], [], M)
noncomputable def zg_Cover_comparedOfAll_0 (X : zv_X) (l0 : Nat) (M : zv_M) : Option zv_R := zR X (10, 0, [some (.ref l0), none, none], [], M)
noncomputable def zg_Cover_comparedOfAll_4 (X : zv_X) (l0 : Nat) (l1 l2 : Int32) (M : zv_M) : Option zv_R := zR X (10, 4, [some (.ref l0), some (.int l1), some (.int l2)], [], M)
noncomputable def zg_Cover_comparedOfAll_46 (X : zv_X) (l1 : Int32) (M : zv_M) : Option zv_R := zR X (10, 46, [none, some (.int l1), none], [], M)
noncomputable def zg_Cover_piecesOfAll_0 (X : zv_X) (l0 : Nat) (M : zv_M) : Option zv_R := zR X (11, 0, [some (.ref l0), none, none], [], M)
noncomputable def zg_Cover_piecesOfAll_4 (X : zv_X) (l0 : Nat) (l1 l2 : Int32) (M : zv_M) : Option zv_R := zR X (11, 4, [some (.ref l0), some (.int l1), some (.int l2)], [], M)
noncomputable def zg_Cover_piecesOfAll_30 (X : zv_X) (l1 : Int32) (M : zv_M) : Option zv_R := zR X (11, 30, [none, some (.int l1), none], [], M)
noncomputable def zg_Cover_pagesOfAll_0 (X : zv_X) (l0 : Nat) (l1 : Int32) (M : zv_M) : Option zv_R := zR X (12, 0, [some (.ref l0), some (.int l1), none, none, none, none, none, none, none, none], [], M)
noncomputable def zg_Cover_pagesOfAll_19 (X : zv_X) (l0 l2 : Nat) (l3 l4 l5 : Int32) (M : zv_M) : Option zv_R := zR X (12, 19, [some (.ref l0), none, some (.ref l2), some (.int l3), some (.int l4), some (.int l5), none, none, none, none], [], M)
noncomputable def zg_Cover_pagesOfAll_37 (X : zv_X) (l0 l2 : Nat) (l3 l4 l5 l6 : Int32) (M : zv_M) : Option zv_R := zR X (12, 37, [some (.ref l0), none, some (.ref l2), some (.int l3), some (.int l4), some (.int l5), some (.int l6), none, none, none], [], M)
noncomputable def zg_Cover_pagesOfAll_121 (X : zv_X) (l0 l2 : Nat) (l3 l4 l5 : Int32) (M : zv_M) : Option zv_R := zR X (12, 121, [some (.ref l0), none, some (.ref l2), some (.int l3), some (.int l4), some (.int l5), none, none, none, none], [], M)
noncomputable def zg_Cover_pagesOfAll_127 (X : zv_X) (l4 : Int32) (M : zv_M) : Option zv_R := zR X (12, 127, [none, none, none, none, some (.int l4), none, none, none, none, none], [], M)
noncomputable def zg_Fit_reach_0 (X : zv_X) (l0 l1 : Nat) (l2 l3 l4 : Int32) (M : zv_M) : Option zv_R := zR X (14, 0, [some (.ref l0), some (.ref l1), some (.int l2), some (.int l3), some (.int l4), none, none, none, none, none], [], M)
noncomputable def zg_Fit_reach_36 (X : zv_X) (l0 l1 : Nat) (l2 l4 l5 l6 l7 : Int32) (M : zv_M) : Option zv_R := zR X (14, 36, [some (.ref l0), some (.ref l1), some (.int l2), none, some (.int l4), some (.int l5), some (.int l6), some (.int l7), none, none], [], M)
noncomputable def zg_Fit_reach_164 (X : zv_X) (l0 l1 : Nat) (l2 l4 l5 l7 : Int32) (M : zv_M) : Option zv_R := zR X (14, 164, [some (.ref l0), some (.ref l1), some (.int l2), none, some (.int l4), some (.int l5), none, some (.int l7), none, none], [], M)
noncomputable def zg_Fit_reach_196 (X : zv_X) (l6 : Int32) (M : zv_M) : Option zv_R := zR X (14, 196, [none, none, none, none, none, none, some (.int l6), none, none, none], [], M)
noncomputable def zg_Gaps_init_0 (X : zv_X) (l0 : Nat) (M : zv_M) : Option zv_R := zR X (15, 0, [some (.ref l0)], [], M)
noncomputable def zg_Gaps_fillEvenly_0 (X : zv_X) (l0 l1 : Nat) (M : zv_M) : Option zv_R := zR X (16, 0, [some (.ref l0), some (.ref l1), none, none], [], M)
noncomputable def zg_Gaps_fillEvenly_21 (X : zv_X) (l0 l1 : Nat) (l2 l3 : Int32) (M : zv_M) : Option zv_R := zR X (16, 21, [some (.ref l0), some (.ref l1), some (.int l2), some (.int l3)], [], M)
noncomputable def zg_Gaps_fillEvenly_49 (X : zv_X) (l2 : Int32) (M : zv_M) : Option zv_R := zR X (16, 49, [none, none, some (.int l2), none], [], M)
noncomputable def zg_Gaps_squeezeIn_0 (X : zv_X) (l0 : Nat) (l1 : Int32) (M : zv_M) : Option zv_R := zR X (17, 0, [some (.ref l0), some (.int l1), none, none, none], [], M)
noncomputable def zg_Gaps_squeezeIn_9 (X : zv_X) (l0 : Nat) (l1 l2 l3 l4 : Int32) (M : zv_M) : Option zv_R := zR X (17, 9, [some (.ref l0), some (.int l1), some (.int l2), some (.int l3), some (.int l4)], [], M)
noncomputable def zg_Gaps_squeezeIn_27 (X : zv_X) (l0 : Nat) (l1 l2 l3 l4 : Int32) (M : zv_M) : Option zv_R := zR X (17, 27, [some (.ref l0), some (.int l1), some (.int l2), some (.int l3), some (.int l4)], [], M)
noncomputable def zg_Gaps_squeezeIn_56 (X : zv_X) (l0 : Nat) (l1 l2 l3 l4 : Int32) (M : zv_M) : Option zv_R := zR X (17, 56, [some (.ref l0), some (.int l1), some (.int l2), some (.int l3), some (.int l4)], [], M)
noncomputable def zg_Gaps_squeezeIn_75 (X : zv_X) (l0 : Nat) (l1 l2 l3 l4 : Int32) (M : zv_M) : Option zv_R := zR X (17, 75, [some (.ref l0), some (.int l1), some (.int l2), some (.int l3), some (.int l4)], [], M)
noncomputable def zg_Gaps_squeezeIn_81 (X : zv_X) (l0 : Nat) (l1 l2 l3 : Int32) (M : zv_M) : Option zv_R := zR X (17, 81, [some (.ref l0), some (.int l1), some (.int l2), some (.int l3), none], [], M)
noncomputable def zg_Gaps_squeezeIn_101 (X : zv_X) (l0 : Nat) (l1 l2 l3 : Int32) (M : zv_M) : Option zv_R := zR X (17, 101, [some (.ref l0), some (.int l1), some (.int l2), some (.int l3), none], [], M)
noncomputable def zg_Gaps_push_0 (X : zv_X) (l0 : Nat) (l1 l2 l3 : Int32) (M : zv_M) : Option zv_R := zR X (18, 0, [some (.ref l0), some (.int l1), some (.int l2), some (.int l3), none, none, none, none], [], M)
noncomputable def zg_Gaps_push_5 (X : zv_X) (l0 : Nat) (l1 l2 l3 l4 : Int32) (M : zv_M) : Option zv_R := zR X (18, 5, [some (.ref l0), some (.int l1), some (.int l2), some (.int l3), some (.int l4), none, none, none], [], M)
noncomputable def zg_Gaps_push_28 (X : zv_X) (l0 : Nat) (l1 l2 l3 l4 : Int32) (M : zv_M) : Option zv_R := zR X (18, 28, [some (.ref l0), some (.int l1), some (.int l2), some (.int l3), some (.int l4), none, none, none], [], M)
noncomputable def zg_Gaps_push_33 (X : zv_X) (l0 : Nat) (l1 l2 l3 l4 l5 : Int32) (M : zv_M) : Option zv_R := zR X (18, 33, [some (.ref l0), some (.int l1), some (.int l2), some (.int l3), some (.int l4), some (.int l5), none, none], [], M)
noncomputable def zg_Gaps_push_58 (X : zv_X) (l0 : Nat) (l1 l2 l3 l4 l5 : Int32) (M : zv_M) : Option zv_R := zR X (18, 58, [some (.ref l0), some (.int l1), some (.int l2), some (.int l3), some (.int l4), some (.int l5), none, none], [], M)
noncomputable def zg_Gaps_push_67 (X : zv_X) (l0 : Nat) (l1 l2 l3 l4 l5 : Int32) (M : zv_M) : Option zv_R := zR X (18, 67, [some (.ref l0), some (.int l1), some (.int l2), some (.int l3), some (.int l4), some (.int l5), none, none], [], M)
noncomputable def zg_Gaps_push_68 (X : zv_X) (l0 : Nat) (l1 l2 l3 l4 l5 s0 : Int32) (M : zv_M) : Option zv_R := zR X (18, 68, [some (.ref l0), some (.int l1), some (.int l2), some (.int l3), some (.int l4), some (.int l5), none, none], [.int s0], M)
noncomputable def zg_Gaps_push_81 (X : zv_X) (l0 : Nat) (l1 l2 l3 l4 l5 l6 : Int32) (M : zv_M) : Option zv_R := zR X (18, 81, [some (.ref l0), some (.int l1), some (.int l2), some (.int l3), some (.int l4), some (.int l5), some (.int l6), none], [], M)
noncomputable def zg_Gaps_push_82 (X : zv_X) (l0 : Nat) (l1 l2 l3 l4 l5 l6 s0 : Int32) (M : zv_M) : Option zv_R := zR X (18, 82, [some (.ref l0), some (.int l1), some (.int l2), some (.int l3), some (.int l4), some (.int l5), some (.int l6), none], [.int s0], M)
noncomputable def zg_Gaps_push_105 (X : zv_X) (l0 : Nat) (l1 l3 l4 : Int32) (M : zv_M) : Option zv_R := zR X (18, 105, [some (.ref l0), some (.int l1), none, some (.int l3), some (.int l4), none, none, none], [], M)
noncomputable def zg_Gaps_push_138 (X : zv_X) (l0 : Nat) (l2 l3 l5 l7 : Int32) (M : zv_M) : Option zv_R := zR X (18, 138, [some (.ref l0), none, some (.int l2), some (.int l3), none, some (.int l5), none, some (.int l7)], [], M)
noncomputable def zg_Gaps_push_174 (X : zv_X) (M : zv_M) : Option zv_R := zR X (18, 174, [none, none, none, none, none, none, none, none], [], M)
noncomputable def zg_Keys_init_0 (X : zv_X) (l0 : Nat) (M : zv_M) : Option zv_R := zR X (19, 0, [some (.ref l0)], [], M)
noncomputable def zg_Keys_copyFrom_0 (X : zv_X) (l0 l1 : Nat) (M : zv_M) : Option zv_R := zR X (20, 0, [some (.ref l0), some (.ref l1)], [], M)
noncomputable def zg_Keys_below_0 (X : zv_X) (l0 : Nat) (l1 : Int32) (M : zv_M) : Option zv_R := zR X (21, 0, [some (.ref l0), some (.int l1)], [], M)
noncomputable def zg_Keys_countOf_0 (X : zv_X) (l0 : Nat) (l1 : Int32) (M : zv_M) : Option zv_R := zR X (22, 0, [some (.ref l0), some (.int l1), none], [], M)
noncomputable def zg_Keys_countOf_40 (X : zv_X) (M : zv_M) : Option zv_R := zR X (22, 40, [none, none, none], [], M)
noncomputable def zg_Keys_countOf_41 (X : zv_X) (s0 : Int32) (M : zv_M) : Option zv_R := zR X (22, 41, [none, none, none], [.int s0], M)
noncomputable def zg_Keys_has_0 (X : zv_X) (l0 : Nat) (l1 : Int32) (M : zv_M) : Option zv_R := zR X (23, 0, [some (.ref l0), some (.int l1)], [], M)
noncomputable def zg_Keys_has_12 (X : zv_X) (M : zv_M) : Option zv_R := zR X (23, 12, [none, none], [], M)
noncomputable def zg_Keys_has_13 (X : zv_X) (s0 : Int32) (M : zv_M) : Option zv_R := zR X (23, 13, [none, none], [.int s0], M)
noncomputable def zg_Keys_canTake_0 (X : zv_X) (l0 : Nat) (l1 l2 : Int32) (M : zv_M) : Option zv_R := zR X (24, 0, [some (.ref l0), some (.int l1), some (.int l2), none], [], M)
noncomputable def zg_Keys_canTake_28 (X : zv_X) (M : zv_M) : Option zv_R := zR X (24, 28, [none, none, none, none], [], M)
noncomputable def zg_Keys_canTake_32 (X : zv_X) (M : zv_M) : Option zv_R := zR X (24, 32, [none, none, none, none], [], M)
noncomputable def zg_Keys_canTake_33 (X : zv_X) (s0 : Int32) (M : zv_M) : Option zv_R := zR X (24, 33, [none, none, none, none], [.int s0], M)
noncomputable def zg_Keys_change_0 (X : zv_X) (l0 : Nat) (l1 l2 : Int32) (M : zv_M) : Option zv_R := zR X (25, 0, [some (.ref l0), some (.int l1), some (.int l2), none], [], M)
noncomputable def zg_Keys_change_24 (X : zv_X) (l0 : Nat) (l1 l2 l3 : Int32) (M : zv_M) : Option zv_R := zR X (25, 24, [some (.ref l0), some (.int l1), some (.int l2), some (.int l3)], [], M)
noncomputable def zg_Keys_change_30 (X : zv_X) (l0 : Nat) (l1 l2 l3 : Int32) (M : zv_M) : Option zv_R := zR X (25, 30, [some (.ref l0), some (.int l1), some (.int l2), some (.int l3)], [], M)
noncomputable def zg_Keys_change_72 (X : zv_X) (M : zv_M) : Option zv_R := zR X (25, 72, [none, none, none, none], [], M)
noncomputable def zg_Keys_makeWay_0 (X : zv_X) (l0 : Nat) (l1 l2 : Int32) (M : zv_M) : Option zv_R := zR X (26, 0, [some (.ref l0), some (.int l1), some (.int l2)], [], M)
noncomputable def zg_Keys_makeWay_11 (X : zv_X) (l0 : Nat) (l1 l2 : Int32) (M : zv_M) : Option zv_R := zR X (26, 11, [some (.ref l0), some (.int l1), some (.int l2)], [], M)
noncomputable def zg_Keys_closeUp_0 (X : zv_X) (l0 : Nat) (l1 : Int32) (M : zv_M) : Option zv_R := zR X (27, 0, [some (.ref l0), some (.int l1)], [], M)
noncomputable def zg_Level_takeRow_0 (X : zv_X) (l0 l1 : Nat) (l2 : Int32) (M : zv_M) : Option zv_R := zR X (29, 0, [some (.ref l0), some (.ref l1), some (.int l2)], [], M)
noncomputable def zg_Level_takeFirstKeys_0 (X : zv_X) (l0 l1 : Nat) (M : zv_M) : Option zv_R := zR X (30, 0, [some (.ref l0), some (.ref l1), none], [], M)
noncomputable def zg_Level_takeFirstKeys_18 (X : zv_X) (l0 l1 : Nat) (l2 : Int32) (M : zv_M) : Option zv_R := zR X (30, 18, [some (.ref l0), some (.ref l1), some (.int l2)], [], M)
noncomputable def zg_Level_takeFirstKeys_43 (X : zv_X) (M : zv_M) : Option zv_R := zR X (30, 43, [none, none, none], [], M)
noncomputable def zg_Level_coverBy_0 (X : zv_X) (l0 l1 : Nat) (l2 : Int32) (M : zv_M) : Option zv_R := zR X (31, 0, [some (.ref l0), some (.ref l1), some (.int l2), none, none], [], M)
noncomputable def zg_Level_coverBy_12 (X : zv_X) (l0 l1 : Nat) (l3 : Int32) (M : zv_M) : Option zv_R := zR X (31, 12, [some (.ref l0), some (.ref l1), none, some (.int l3), none], [], M)
noncomputable def zg_Level_coverBy_97 (X : zv_X) (M : zv_M) : Option zv_R := zR X (31, 97, [none, none, none, none, none], [], M)
noncomputable def zg_Level_setLine_0 (X : zv_X) (l0 : Nat) (l1 l2 : Int32) (l3 l5 : Int64) (M : zv_M) : Option zv_R := zR X (32, 0, [some (.ref l0), some (.int l1), some (.int l2), some (.long l3), none, some (.long l5), none, none, none, none, none, none, none, none, none, none], [], M)
noncomputable def zg_Level_setLine_34 (X : zv_X) (l0 : Nat) (l1 l2 l9 l10 : Int32) (l11 : Int64) (l13 : Int32) (M : zv_M) : Option zv_R := zR X (32, 34, [some (.ref l0), some (.int l1), some (.int l2), none, none, none, none, none, none, some (.int l9), some (.int l10), some (.long l11), none, some (.int l13), none, none], [], M)
noncomputable def zg_Level_setLine_86 (X : zv_X) (l0 : Nat) (l1 l2 l9 l10 l13 : Int32) (l14 : Int64) (M : zv_M) : Option zv_R := zR X (32, 86, [some (.ref l0), some (.int l1), some (.int l2), none, none, none, none, none, none, some (.int l9), some (.int l10), none, none, some (.int l13), some (.long l14), none], [], M)
noncomputable def zg_Level_setLine_90 (X : zv_X) (l0 : Nat) (l1 l2 l9 l10 : Int32) (l11 : Int64) (l13 : Int32) (M : zv_M) : Option zv_R := zR X (32, 90, [some (.ref l0), some (.int l1), some (.int l2), none, none, none, none, none, none, some (.int l9), some (.int l10), some (.long l11), none, some (.int l13), none, none], [], M)
noncomputable def zg_Level_setLine_96 (X : zv_X) (l0 : Nat) (l1 l9 l10 : Int32) (l11 : Int64) (M : zv_M) : Option zv_R := zR X (32, 96, [some (.ref l0), some (.int l1), none, none, none, none, none, none, none, some (.int l9), some (.int l10), some (.long l11), none, none, none, none], [], M)
noncomputable def zg_Level_divisor_0 (X : zv_X) (l0 l2 : Int64) (M : zv_M) : Option zv_R := zR X (33, 0, [some (.long l0), none, some (.long l2), none, none, none, none, none, none, none, none], [], M)
noncomputable def zg_Level_divisor_9 (X : zv_X) (l4 l6 : Int64) (l8 : Int32) (M : zv_M) : Option zv_R := zR X (33, 9, [none, none, none, none, some (.long l4), none, some (.long l6), none, some (.int l8), none, none], [], M)
noncomputable def zg_Level_divisor_44 (X : zv_X) (l4 : Int64) (M : zv_M) : Option zv_R := zR X (33, 44, [none, none, none, none, some (.long l4), none, none, none, none, none, none], [], M)
noncomputable def zg_Level_lastOf_0 (X : zv_X) (l0 : Nat) (l1 : Int32) (M : zv_M) : Option zv_R := zR X (34, 0, [some (.ref l0), some (.int l1)], [], M)
noncomputable def zg_Level_lastOf_23 (X : zv_X) (l0 : Nat) (M : zv_M) : Option zv_R := zR X (34, 23, [some (.ref l0), none], [], M)
noncomputable def zg_Level_lastOf_29 (X : zv_X) (s0 : Int32) (M : zv_M) : Option zv_R := zR X (34, 29, [none, none], [.int s0], M)
noncomputable def zg_Level_firstKeyOf_0 (X : zv_X) (l0 : Nat) (l1 : Int32) (M : zv_M) : Option zv_R := zR X (35, 0, [some (.ref l0), some (.int l1)], [], M)
noncomputable def zg_Level_guessed_0 (X : zv_X) (l0 : Nat) (l1 l2 : Int32) (M : zv_M) : Option zv_R := zR X (36, 0, [some (.ref l0), some (.int l1), some (.int l2), none, none, none, none], [], M)
noncomputable def zg_Plane_init_0 (X : zv_X) (l0 : Nat) (M : zv_M) : Option zv_R := zR X (37, 0, [some (.ref l0)], [], M)
noncomputable def zg_Plane_copyFrom_0 (X : zv_X) (l0 l1 : Nat) (M : zv_M) : Option zv_R := zR X (38, 0, [some (.ref l0), some (.ref l1)], [], M)
noncomputable def zg_Plane_addPoint_0 (X : zv_X) (l0 : Nat) (l1 l2 : Int32) (M : zv_M) : Option zv_R := zR X (39, 0, [some (.ref l0), some (.int l1), some (.int l2)], [], M)
noncomputable def zg_Plane_addPoint_23 (X : zv_X) (M : zv_M) : Option zv_R := zR X (39, 23, [none, none, none], [], M)
noncomputable def zg_Plane_addPoint_25 (X : zv_X) (l0 : Nat) (l1 l2 : Int32) (M : zv_M) : Option zv_R := zR X (39, 25, [some (.ref l0), some (.int l1), some (.int l2)], [], M)
noncomputable def zg_Plane_addBox_0 (X : zv_X) (l0 : Nat) (l1 l2 l3 l4 : Int32) (M : zv_M) : Option zv_R := zR X (40, 0, [some (.ref l0), some (.int l1), some (.int l2), some (.int l3), some (.int l4), none], [], M)
noncomputable def zg_Plane_addBox_33 (X : zv_X) (l0 : Nat) (l1 l2 l3 l4 : Int32) (M : zv_M) : Option zv_R := zR X (40, 33, [some (.ref l0), some (.int l1), some (.int l2), some (.int l3), some (.int l4), none], [], M)
noncomputable def zg_Plane_addBox_34 (X : zv_X) (l0 : Nat) (l1 l2 l3 l4 s0 : Int32) (M : zv_M) : Option zv_R := zR X (40, 34, [some (.ref l0), some (.int l1), some (.int l2), some (.int l3), some (.int l4), none], [.int s0], M)
noncomputable def zg_Plane_addBox_61 (X : zv_X) (M : zv_M) : Option zv_R := zR X (40, 61, [none, none, none, none, none, none], [], M)
noncomputable def zg_Plane_addBox_63 (X : zv_X) (l0 : Nat) (l1 l2 l3 l4 : Int32) (M : zv_M) : Option zv_R := zR X (40, 63, [some (.ref l0), some (.int l1), some (.int l2), some (.int l3), some (.int l4), none], [], M)
noncomputable def zg_Plane_inside_0 (X : zv_X) (l0 : Nat) (l1 : Int32) (M : zv_M) : Option zv_R := zR X (41, 0, [some (.ref l0), some (.int l1), none, none, none, none, none, none], [], M)
noncomputable def zg_Plane_inside_50 (X : zv_X) (l0 : Nat) (l2 l3 l4 l5 l6 l7 : Int32) (M : zv_M) : Option zv_R := zR X (41, 50, [some (.ref l0), none, some (.int l2), some (.int l3), some (.int l4), some (.int l5), some (.int l6), some (.int l7)], [], M)
noncomputable def zg_Plane_inside_108 (X : zv_X) (l0 : Nat) (l2 l3 l4 l5 l6 l7 : Int32) (M : zv_M) : Option zv_R := zR X (41, 108, [some (.ref l0), none, some (.int l2), some (.int l3), some (.int l4), some (.int l5), some (.int l6), some (.int l7)], [], M)
noncomputable def zg_Plane_inside_114 (X : zv_X) (l6 : Int32) (M : zv_M) : Option zv_R := zR X (41, 114, [none, none, none, none, none, none, some (.int l6), none], [], M)
noncomputable def zg_Plane_readBy_0 (X : zv_X) (l0 : Nat) (l1 l2 : Int32) (M : zv_M) : Option zv_R := zR X (42, 0, [some (.ref l0), some (.int l1), some (.int l2), none, none, none, none, none], [], M)
noncomputable def zg_Plane_readBy_10 (X : zv_X) (l0 : Nat) (l1 l2 l3 l4 l5 : Int32) (M : zv_M) : Option zv_R := zR X (42, 10, [some (.ref l0), some (.int l1), some (.int l2), some (.int l3), some (.int l4), some (.int l5), none, none], [], M)
noncomputable def zg_Plane_readBy_86 (X : zv_X) (l0 : Nat) (l2 l3 l4 : Int32) (M : zv_M) : Option zv_R := zR X (42, 86, [some (.ref l0), none, some (.int l2), some (.int l3), some (.int l4), none, none, none], [], M)
noncomputable def zg_Plane_readBy_92 (X : zv_X) (l0 : Nat) (l2 l3 l4 l5 l6 : Int32) (M : zv_M) : Option zv_R := zR X (42, 92, [some (.ref l0), none, some (.int l2), some (.int l3), some (.int l4), some (.int l5), some (.int l6), none], [], M)
noncomputable def zg_Plane_readBy_137 (X : zv_X) (l0 : Nat) (l2 l3 l4 l5 l6 : Int32) (M : zv_M) : Option zv_R := zR X (42, 137, [some (.ref l0), none, some (.int l2), some (.int l3), some (.int l4), some (.int l5), some (.int l6), none], [], M)
noncomputable def zg_Plane_readBy_143 (X : zv_X) (l5 : Int32) (M : zv_M) : Option zv_R := zR X (42, 143, [none, none, none, none, none, some (.int l5), none, none], [], M)
noncomputable def zg_Plane_isOn_0 (X : zv_X) (l0 : Int32) (M : zv_M) : Option zv_R := zR X (43, 0, [some (.int l0)], [], M)
noncomputable def zg_Plane_isOn_14 (X : zv_X) (M : zv_M) : Option zv_R := zR X (43, 14, [none], [], M)
noncomputable def zg_Plane_isOn_15 (X : zv_X) (s0 : Int32) (M : zv_M) : Option zv_R := zR X (43, 15, [none], [.int s0], M)
noncomputable def zg_Plane_number_0 (X : zv_X) (l0 l1 l2 : Int32) (M : zv_M) : Option zv_R := zR X (44, 0, [some (.int l0), some (.int l1), some (.int l2), none, none], [], M)
noncomputable def zg_Plane_number_11 (X : zv_X) (l0 l1 l2 : Int32) (M : zv_M) : Option zv_R := zR X (44, 11, [some (.int l0), some (.int l1), some (.int l2), none, none], [], M)
noncomputable def zg_Plane_number_30 (X : zv_X) (l1 s0 : Int32) (M : zv_M) : Option zv_R := zR X (44, 30, [none, some (.int l1), none, none, none], [.int s0], M)
noncomputable def zg_Plane_number_34 (X : zv_X) (s0 s1 : Int32) (M : zv_M) : Option zv_R := zR X (44, 34, [none, none, none, none, none], [.int s0, .int s1], M)
noncomputable def zg_Plane_number_36 (X : zv_X) (l1 l2 : Int32) (M : zv_M) : Option zv_R := zR X (44, 36, [none, some (.int l1), some (.int l2), none, none], [], M)
noncomputable def zg_Plane_number_41 (X : zv_X) (l1 l2 l3 l4 : Int32) (M : zv_M) : Option zv_R := zR X (44, 41, [none, some (.int l1), some (.int l2), some (.int l3), some (.int l4)], [], M)
noncomputable def zg_Plane_number_83 (X : zv_X) (l3 : Int32) (M : zv_M) : Option zv_R := zR X (44, 83, [none, none, none, some (.int l3), none], [], M)
noncomputable def zg_Side_begin_0 (X : zv_X) (l0 : Nat) (l1 l3 : Int64) (M : zv_M) : Option zv_R := zR X (46, 0, [some (.ref l0), some (.long l1), none, some (.long l3), none], [], M)
noncomputable def zg_Side_addBottom_0 (X : zv_X) (l0 : Nat) (l1 l2 : Int32) (M : zv_M) : Option zv_R := zR X (47, 0, [some (.ref l0), some (.int l1), some (.int l2), none, none, none, none, none, none, none, none, none], [], M)
noncomputable def zg_Side_addBottom_12 (X : zv_X) (l0 : Nat) (l1 l2 : Int32) (M : zv_M) : Option zv_R := zR X (47, 12, [some (.ref l0), some (.int l1), some (.int l2), none, none, none, none, none, none, none, none, none], [], M)
noncomputable def zg_Side_addBottom_67 (X : zv_X) (l0 : Nat) (l1 l2 : Int32) (l3 l5 : Int64) (M : zv_M) : Option zv_R := zR X (47, 67, [some (.ref l0), some (.int l1), some (.int l2), some (.long l3), none, some (.long l5), none, none, none, none, none, none], [], M)
noncomputable def zg_Side_addBottom_75 (X : zv_X) (l0 : Nat) (l1 l2 : Int32) (l3 l5 : Int64) (l7 : Int32) (M : zv_M) : Option zv_R := zR X (47, 75, [some (.ref l0), some (.int l1), some (.int l2), some (.long l3), none, some (.long l5), none, some (.int l7), none, none, none, none], [], M)
noncomputable def zg_Side_addBottom_125 (X : zv_X) (l0 : Nat) (l1 l2 l7 : Int32) (l8 l10 : Int64) (M : zv_M) : Option zv_R := zR X (47, 125, [some (.ref l0), some (.int l1), some (.int l2), none, none, none, none, some (.int l7), some (.long l8), none, some (.long l10), none], [], M)
noncomputable def zg_Side_addBottom_144 (X : zv_X) (l0 : Nat) (l3 l5 : Int64) (M : zv_M) : Option zv_R := zR X (47, 144, [some (.ref l0), none, none, some (.long l3), none, some (.long l5), none, none, none, none, none, none], [], M)
noncomputable def zg_Side_addTop_0 (X : zv_X) (l0 : Nat) (l1 l2 : Int32) (M : zv_M) : Option zv_R := zR X (48, 0, [some (.ref l0), some (.int l1), some (.int l2), none, none, none, none, none, none], [], M)
noncomputable def zg_Side_addTop_95 (X : zv_X) (l0 : Nat) (l1 l2 : Int32) (M : zv_M) : Option zv_R := zR X (48, 95, [some (.ref l0), some (.int l1), some (.int l2), none, none, none, none, none, none], [], M)
noncomputable def zg_Side_addTop_108 (X : zv_X) (l0 : Nat) (l1 l2 : Int32) (M : zv_M) : Option zv_R := zR X (48, 108, [some (.ref l0), some (.int l1), some (.int l2), none, none, none, none, none, none], [], M)
noncomputable def zg_Side_addTop_150 (X : zv_X) (M : zv_M) : Option zv_R := zR X (48, 150, [none, none, none, none, none, none, none, none, none], [], M)
noncomputable def zg_Sieve_init_0 (X : zv_X) (l0 : Nat) (M : zv_M) : Option zv_R := zR X (49, 0, [some (.ref l0)], [], M)
noncomputable def zg_Sieve_ready_0 (X : zv_X) (l0 l1 : Nat) (l2 : Int32) (M : zv_M) : Option zv_R := zR X (50, 0, [some (.ref l0), some (.ref l1), some (.int l2), none], [], M)
noncomputable def zg_Sieve_ready_56 (X : zv_X) (l0 s0 : Nat) (M : zv_M) : Option zv_R := zR X (50, 56, [some (.ref l0), none, none, none], [.ref s0], M)
noncomputable def zg_Sieve_ready_57 (X : zv_X) (l0 : Nat) (s0 : Int32) (s1 : Nat) (M : zv_M) : Option zv_R := zR X (50, 57, [some (.ref l0), none, none, none], [.int s0, .ref s1], M)
noncomputable def zg_Sieve_ready_62 (X : zv_X) (l0 : Nat) (l3 : Int32) (M : zv_M) : Option zv_R := zR X (50, 62, [some (.ref l0), none, none, some (.int l3)], [], M)
noncomputable def zg_Sieve_ready_83 (X : zv_X) (l0 : Nat) (M : zv_M) : Option zv_R := zR X (50, 83, [some (.ref l0), none, none, none], [], M)
noncomputable def zg_Sieve_ready_85 (X : zv_X) (l0 : Nat) (l3 : Int32) (M : zv_M) : Option zv_R := zR X (50, 85, [some (.ref l0), none, none, some (.int l3)], [], M)
noncomputable def zg_Sieve_ready_117 (X : zv_X) (l0 : Nat) (l3 : Int32) (M : zv_M) : Option zv_R := zR X (50, 117, [some (.ref l0), none, none, some (.int l3)], [], M)
noncomputable def zg_Sieve_ready_123 (X : zv_X) (M : zv_M) : Option zv_R := zR X (50, 123, [none, none, none, none], [], M)
noncomputable def zg_Sieve_lets_0 (X : zv_X) (l0 : Nat) (l1 : Int32) (M : zv_M) : Option zv_R := zR X (51, 0, [some (.ref l0), some (.int l1), none, none, none], [], M)
noncomputable def zg_Sieve_lets_14 (X : zv_X) (M : zv_M) : Option zv_R := zR X (51, 14, [none, none, none, none, none], [], M)
noncomputable def zg_Sieve_lets_16 (X : zv_X) (l0 : Nat) (l1 : Int32) (M : zv_M) : Option zv_R := zR X (51, 16, [some (.ref l0), some (.int l1), none, none, none], [], M)
noncomputable def zg_Sieve_lets_53 (X : zv_X) (l0 : Nat) (l1 l2 : Int32) (M : zv_M) : Option zv_R := zR X (51, 53, [some (.ref l0), some (.int l1), some (.int l2), none, none], [], M)
noncomputable def zg_Sieve_lets_54 (X : zv_X) (l0 : Nat) (l1 l2 s0 : Int32) (M : zv_M) : Option zv_R := zR X (51, 54, [some (.ref l0), some (.int l1), some (.int l2), none, none], [.int s0], M)
noncomputable def zg_Sieve_lets_70 (X : zv_X) (l0 : Nat) (l1 l2 : Int32) (M : zv_M) : Option zv_R := zR X (51, 70, [some (.ref l0), some (.int l1), some (.int l2), none, none], [], M)
noncomputable def zg_Sieve_lets_80 (X : zv_X) (M : zv_M) : Option zv_R := zR X (51, 80, [none, none, none, none, none], [], M)
noncomputable def zg_Sieve_lets_82 (X : zv_X) (l0 : Nat) (l1 : Int32) (M : zv_M) : Option zv_R := zR X (51, 82, [some (.ref l0), some (.int l1), none, none, none], [], M)
noncomputable def zg_Sieve_lets_85 (X : zv_X) (l0 : Nat) (l1 l4 : Int32) (M : zv_M) : Option zv_R := zR X (51, 85, [some (.ref l0), some (.int l1), none, none, some (.int l4)], [], M)
noncomputable def zg_Sieve_lets_111 (X : zv_X) (l0 : Nat) (l1 l4 : Int32) (M : zv_M) : Option zv_R := zR X (51, 111, [some (.ref l0), some (.int l1), none, none, some (.int l4)], [], M)
noncomputable def zg_Sieve_lets_117 (X : zv_X) (M : zv_M) : Option zv_R := zR X (51, 117, [none, none, none, none, none], [], M)
noncomputable def zg_Sieve_isInSpan_0 (X : zv_X) (l0 : Nat) (l1 : Int32) (M : zv_M) : Option zv_R := zR X (52, 0, [some (.ref l0), some (.int l1)], [], M)
noncomputable def zg_Sieve_isInSpan_18 (X : zv_X) (M : zv_M) : Option zv_R := zR X (52, 18, [none, none], [], M)
noncomputable def zg_Sieve_isInSpan_22 (X : zv_X) (M : zv_M) : Option zv_R := zR X (52, 22, [none, none], [], M)
noncomputable def zg_Sieve_isInSpan_23 (X : zv_X) (s0 : Int32) (M : zv_M) : Option zv_R := zR X (52, 23, [none, none], [.int s0], M)
noncomputable def zg_Sieve_isNearNext_0 (X : zv_X) (l0 : Nat) (l1 : Int32) (M : zv_M) : Option zv_R := zR X (53, 0, [some (.ref l0), some (.int l1)], [], M)
noncomputable def zg_Sieve_isNearNext_49 (X : zv_X) (M : zv_M) : Option zv_R := zR X (53, 49, [none, none], [], M)
noncomputable def zg_Sieve_isNearNext_50 (X : zv_X) (s0 : Int32) (M : zv_M) : Option zv_R := zR X (53, 50, [none, none], [.int s0], M)
noncomputable def zg_Sieve_mark_0 (X : zv_X) (l0 : Nat) (l1 : Int32) (M : zv_M) : Option zv_R := zR X (54, 0, [some (.ref l0), some (.int l1), none], [], M)
noncomputable def zg_Sieve_mark_2 (X : zv_X) (l0 : Nat) (l1 l2 : Int32) (M : zv_M) : Option zv_R := zR X (54, 2, [some (.ref l0), some (.int l1), some (.int l2)], [], M)
noncomputable def zg_Sieve_mark_28 (X : zv_X) (M : zv_M) : Option zv_R := zR X (54, 28, [none, none, none], [], M)
noncomputable def zg_Sieve_hash_0 (X : zv_X) (l0 : Nat) (l1 l2 : Int32) (M : zv_M) : Option zv_R := zR X (55, 0, [some (.ref l0), some (.int l1), some (.int l2), none, none], [], M)
noncomputable def zg_State_init_0 (X : zv_X) (l0 : Nat) (M : zv_M) : Option zv_R := zR X (56, 0, [some (.ref l0)], [], M)
noncomputable def zg_State_copyFrom_0 (X : zv_X) (l0 l1 : Nat) (M : zv_M) : Option zv_R := zR X (57, 0, [some (.ref l0), some (.ref l1)], [], M)
noncomputable def zg_State_standAll_0 (X : zv_X) (l0 : Nat) (M : zv_M) : Option zv_R := zR X (58, 0, [some (.ref l0)], [], M)
noncomputable def zg_State_stands_0 (X : zv_X) (l0 : Nat) (l1 : Int32) (M : zv_M) : Option zv_R := zR X (59, 0, [some (.ref l0), some (.int l1), none], [], M)
noncomputable def zg_State_stands_35 (X : zv_X) (M : zv_M) : Option zv_R := zR X (59, 35, [none, none, none], [], M)
noncomputable def zg_State_stands_36 (X : zv_X) (s0 : Int32) (M : zv_M) : Option zv_R := zR X (59, 36, [none, none, none], [.int s0], M)
noncomputable def zg_State_standing_0 (X : zv_X) (l0 : Nat) (M : zv_M) : Option zv_R := zR X (60, 0, [some (.ref l0), none, none, none], [], M)
noncomputable def zg_State_standing_6 (X : zv_X) (l0 : Nat) (l1 l2 l3 : Int32) (M : zv_M) : Option zv_R := zR X (60, 6, [some (.ref l0), some (.int l1), some (.int l2), some (.int l3)], [], M)
noncomputable def zg_State_standing_14 (X : zv_X) (l0 : Nat) (l1 l2 l3 : Int32) (M : zv_M) : Option zv_R := zR X (60, 14, [some (.ref l0), some (.int l1), some (.int l2), some (.int l3)], [], M)
noncomputable def zg_State_standing_49 (X : zv_X) (l0 : Nat) (l1 l2 l3 : Int32) (M : zv_M) : Option zv_R := zR X (60, 49, [some (.ref l0), some (.int l1), some (.int l2), some (.int l3)], [], M)
noncomputable def zg_State_standing_81 (X : zv_X) (l0 : Nat) (l1 l2 l3 : Int32) (M : zv_M) : Option zv_R := zR X (60, 81, [some (.ref l0), some (.int l1), some (.int l2), some (.int l3)], [], M)
noncomputable def zg_State_standing_87 (X : zv_X) (l1 : Int32) (M : zv_M) : Option zv_R := zR X (60, 87, [none, some (.int l1), none, none], [], M)
noncomputable def zg_State_waiting_0 (X : zv_X) (l0 : Nat) (M : zv_M) : Option zv_R := zR X (61, 0, [some (.ref l0)], [], M)
noncomputable def zg_Teller_init_0 (X : zv_X) (l0 : Nat) (M : zv_M) : Option zv_R := zR X (62, 0, [some (.ref l0)], [], M)
noncomputable def zg_Teller_addFour_0 (X : zv_X) (l0 : Nat) (l1 : Int32) (M : zv_M) : Option zv_R := zR X (63, 0, [some (.ref l0), some (.int l1), none], [], M)
noncomputable def zg_Teller_addFour_3 (X : zv_X) (l0 : Nat) (l1 l2 : Int32) (M : zv_M) : Option zv_R := zR X (63, 3, [some (.ref l0), some (.int l1), some (.int l2)], [], M)
noncomputable def zg_Teller_addFour_46 (X : zv_X) (M : zv_M) : Option zv_R := zR X (63, 46, [none, none, none], [], M)
noncomputable def zg_Teller_readAll_0 (X : zv_X) (l0 l1 : Nat) (M : zv_M) : Option zv_R := zR X (64, 0, [some (.ref l0), some (.ref l1), none], [], M)
noncomputable def zg_Teller_readAll_47 (X : zv_X) (l0 : Nat) (l2 : Int32) (M : zv_M) : Option zv_R := zR X (64, 47, [some (.ref l0), none, some (.int l2)], [], M)
noncomputable def zg_Teller_readAll_109 (X : zv_X) (l0 : Nat) (l2 : Int32) (M : zv_M) : Option zv_R := zR X (64, 109, [some (.ref l0), none, some (.int l2)], [], M)
noncomputable def zg_Teller_readAll_136 (X : zv_X) (l0 : Nat) (l2 : Int32) (M : zv_M) : Option zv_R := zR X (64, 136, [some (.ref l0), none, some (.int l2)], [], M)
noncomputable def zg_Teller_readAll_142 (X : zv_X) (M : zv_M) : Option zv_R := zR X (64, 142, [none, none, none], [], M)
noncomputable def zg_Teller_fail_0 (X : zv_X) (l0 : Nat) (l1 l2 : Int32) (M : zv_M) : Option zv_R := zR X (65, 0, [some (.ref l0), some (.int l1), some (.int l2)], [], M)
noncomputable def zg_Teller_take_0 (X : zv_X) (l0 : Nat) (l1 : Int32) (M : zv_M) : Option zv_R := zR X (66, 0, [some (.ref l0), some (.int l1)], [], M)
noncomputable def zg_Teller_take_28 (X : zv_X) (l0 : Nat) (M : zv_M) : Option zv_R := zR X (66, 28, [some (.ref l0), none], [], M)
noncomputable def zg_Teller_takeNumber_0 (X : zv_X) (l0 : Nat) (l1 l2 : Int32) (M : zv_M) : Option zv_R := zR X (67, 0, [some (.ref l0), some (.int l1), some (.int l2)], [], M)
noncomputable def zg_Teller_takeNumber_10 (X : zv_X) (l0 : Nat) (l1 l2 : Int32) (M : zv_M) : Option zv_R := zR X (67, 10, [some (.ref l0), some (.int l1), some (.int l2)], [], M)
noncomputable def zg_Teller_takeNumber_40 (X : zv_X) (l0 : Nat) (M : zv_M) : Option zv_R := zR X (67, 40, [some (.ref l0), none, none], [], M)
noncomputable def zg_Teller_takeNumber_57 (X : zv_X) (M : zv_M) : Option zv_R := zR X (67, 57, [none, none, none], [], M)
noncomputable def zg_Teller_readStatement_0 (X : zv_X) (l0 : Nat) (l1 : Int32) (M : zv_M) : Option zv_R := zR X (68, 0, [some (.ref l0), some (.int l1)], [], M)
noncomputable def zg_Teller_readStatement_40 (X : zv_X) (l0 : Nat) (l1 : Int32) (M : zv_M) : Option zv_R := zR X (68, 40, [some (.ref l0), some (.int l1)], [], M)
noncomputable def zg_Teller_readStatement_46 (X : zv_X) (l0 : Nat) (l1 : Int32) (M : zv_M) : Option zv_R := zR X (68, 46, [some (.ref l0), some (.int l1)], [], M)
noncomputable def zg_Teller_readStatement_52 (X : zv_X) (l0 : Nat) (M : zv_M) : Option zv_R := zR X (68, 52, [some (.ref l0), none], [], M)
noncomputable def zg_Teller_readStatement_57 (X : zv_X) (l0 : Nat) (M : zv_M) : Option zv_R := zR X (68, 57, [some (.ref l0), none], [], M)
noncomputable def zg_Teller_readStatement_63 (X : zv_X) (l0 : Nat) (M : zv_M) : Option zv_R := zR X (68, 63, [some (.ref l0), none], [], M)
noncomputable def zg_Teller_readStatement_69 (X : zv_X) (l0 : Nat) (M : zv_M) : Option zv_R := zR X (68, 69, [some (.ref l0), none], [], M)
noncomputable def zg_Teller_readKey_0 (X : zv_X) (l0 : Nat) (l1 : Int32) (M : zv_M) : Option zv_R := zR X (69, 0, [some (.ref l0), some (.int l1), none, none], [], M)
noncomputable def zg_Teller_readKey_13 (X : zv_X) (l0 : Nat) (l1 : Int32) (M : zv_M) : Option zv_R := zR X (69, 13, [some (.ref l0), some (.int l1), none, none], [], M)
noncomputable def zg_Teller_readKey_52 (X : zv_X) (l0 : Nat) (l1 l2 : Int32) (M : zv_M) : Option zv_R := zR X (69, 52, [some (.ref l0), some (.int l1), some (.int l2), none], [], M)
noncomputable def zg_Teller_readKey_64 (X : zv_X) (l0 : Nat) (l1 l2 l3 : Int32) (M : zv_M) : Option zv_R := zR X (69, 64, [some (.ref l0), some (.int l1), some (.int l2), some (.int l3)], [], M)
noncomputable def zg_Teller_readKey_88 (X : zv_X) (l0 : Nat) (l2 l3 : Int32) (M : zv_M) : Option zv_R := zR X (69, 88, [some (.ref l0), none, some (.int l2), some (.int l3)], [], M)
noncomputable def zg_Teller_readRun_0 (X : zv_X) (l0 : Nat) (l1 : Int32) (M : zv_M) : Option zv_R := zR X (70, 0, [some (.ref l0), some (.int l1), none, none, none, none, none], [], M)
noncomputable def zg_Teller_readRun_35 (X : zv_X) (l0 : Nat) (l1 : Int32) (M : zv_M) : Option zv_R := zR X (70, 35, [some (.ref l0), some (.int l1), none, none, none, none, none], [], M)
noncomputable def zg_Teller_readRun_36 (X : zv_X) (l0 : Nat) (l1 s0 : Int32) (M : zv_M) : Option zv_R := zR X (70, 36, [some (.ref l0), some (.int l1), none, none, none, none, none], [.int s0], M)
noncomputable def zg_Teller_readRun_43 (X : zv_X) (l0 : Nat) (l1 : Int32) (M : zv_M) : Option zv_R := zR X (70, 43, [some (.ref l0), some (.int l1), none, none, none, none, none], [], M)
noncomputable def zg_Teller_readRun_113 (X : zv_X) (l0 : Nat) (l1 l3 l4 l5 : Int32) (M : zv_M) : Option zv_R := zR X (70, 113, [some (.ref l0), some (.int l1), none, some (.int l3), some (.int l4), some (.int l5), none], [], M)
noncomputable def zg_Teller_readRun_116 (X : zv_X) (l0 : Nat) (l1 l3 l4 l5 l6 : Int32) (M : zv_M) : Option zv_R := zR X (70, 116, [some (.ref l0), some (.int l1), none, some (.int l3), some (.int l4), some (.int l5), some (.int l6)], [], M)
noncomputable def zg_Teller_readRun_153 (X : zv_X) (l0 : Nat) (l1 l3 l4 l5 l6 : Int32) (M : zv_M) : Option zv_R := zR X (70, 153, [some (.ref l0), some (.int l1), none, some (.int l3), some (.int l4), some (.int l5), some (.int l6)], [], M)
noncomputable def zg_Teller_readRun_174 (X : zv_X) (M : zv_M) : Option zv_R := zR X (70, 174, [none, none, none, none, none, none, none], [], M)
noncomputable def zg_Teller_readDrop_0 (X : zv_X) (l0 : Nat) (M : zv_M) : Option zv_R := zR X (71, 0, [some (.ref l0), none], [], M)
noncomputable def zg_Teller_readDrop_13 (X : zv_X) (l0 : Nat) (M : zv_M) : Option zv_R := zR X (71, 13, [some (.ref l0), none], [], M)
noncomputable def zg_Teller_readDrop_53 (X : zv_X) (M : zv_M) : Option zv_R := zR X (71, 53, [none, none], [], M)
noncomputable def zg_Teller_readSetting_0 (X : zv_X) (l0 : Nat) (l1 : Int32) (M : zv_M) : Option zv_R := zR X (72, 0, [some (.ref l0), some (.int l1)], [], M)
noncomputable def zg_Teller_readSetting_19 (X : zv_X) (l0 : Nat) (l1 : Int32) (M : zv_M) : Option zv_R := zR X (72, 19, [some (.ref l0), some (.int l1)], [], M)
noncomputable def zg_Teller_splitTape_0 (X : zv_X) (l0 : Nat) (M : zv_M) : Option zv_R := zR X (73, 0, [some (.ref l0), none, none], [], M)
noncomputable def zg_Teller_splitTape_4 (X : zv_X) (l0 : Nat) (l1 l2 : Int32) (M : zv_M) : Option zv_R := zR X (73, 4, [some (.ref l0), some (.int l1), some (.int l2)], [], M)
noncomputable def zg_Teller_splitTape_41 (X : zv_X) (l0 : Nat) (l1 l2 : Int32) (M : zv_M) : Option zv_R := zR X (73, 41, [some (.ref l0), some (.int l1), some (.int l2)], [], M)
noncomputable def zg_Teller_splitTape_47 (X : zv_X) (l0 : Nat) (l1 l2 : Int32) (M : zv_M) : Option zv_R := zR X (73, 47, [some (.ref l0), some (.int l1), some (.int l2)], [], M)
noncomputable def zg_Teller_splitTape_67 (X : zv_X) (l0 : Nat) (l1 : Int32) (M : zv_M) : Option zv_R := zR X (73, 67, [some (.ref l0), some (.int l1), none], [], M)
noncomputable def zg_Teller_split_0 (X : zv_X) (l0 : Nat) (l1 l2 : Int32) (M : zv_M) : Option zv_R := zR X (74, 0, [some (.ref l0), some (.int l1), some (.int l2)], [], M)
noncomputable def zg_Teller_split_15 (X : zv_X) (l0 : Nat) (l1 l2 : Int32) (M : zv_M) : Option zv_R := zR X (74, 15, [some (.ref l0), some (.int l1), some (.int l2)], [], M)
noncomputable def zg_Teller_split_34 (X : zv_X) (l0 : Nat) (l1 l2 : Int32) (M : zv_M) : Option zv_R := zR X (74, 34, [some (.ref l0), some (.int l1), some (.int l2)], [], M)
noncomputable def zg_Teller_split_41 (X : zv_X) (l0 : Nat) (l1 l2 : Int32) (M : zv_M) : Option zv_R := zR X (74, 41, [some (.ref l0), some (.int l1), some (.int l2)], [], M)
noncomputable def zg_Teller_split_61 (X : zv_X) (l2 s0 : Int32) (s1 : Nat) (M : zv_M) : Option zv_R := zR X (74, 61, [none, none, some (.int l2)], [.int s0, .ref s1], M)
noncomputable def zg_Teller_split_62 (X : zv_X) (l2 s0 s1 : Int32) (s2 : Nat) (M : zv_M) : Option zv_R := zR X (74, 62, [none, none, some (.int l2)], [.int s0, .int s1, .ref s2], M)
noncomputable def zg_Teller_splitWord_0 (X : zv_X) (l0 : Nat) (l1 l2 : Int32) (M : zv_M) : Option zv_R := zR X (75, 0, [some (.ref l0), some (.int l1), some (.int l2), none, none], [], M)
noncomputable def zg_Teller_splitWord_2 (X : zv_X) (l0 : Nat) (l1 l2 l3 : Int32) (M : zv_M) : Option zv_R := zR X (75, 2, [some (.ref l0), some (.int l1), some (.int l2), some (.int l3), none], [], M)
noncomputable def zg_Teller_splitWord_24 (X : zv_X) (l0 : Nat) (l1 l2 l3 : Int32) (M : zv_M) : Option zv_R := zR X (75, 24, [some (.ref l0), some (.int l1), some (.int l2), some (.int l3), none], [], M)
noncomputable def zg_Teller_splitWord_34 (X : zv_X) (l0 : Nat) (l1 l2 l3 l4 : Int32) (M : zv_M) : Option zv_R := zR X (75, 34, [some (.ref l0), some (.int l1), some (.int l2), some (.int l3), some (.int l4)], [], M)
noncomputable def zg_Teller_splitWord_70 (X : zv_X) (l0 : Nat) (l1 l2 l3 l4 : Int32) (M : zv_M) : Option zv_R := zR X (75, 70, [some (.ref l0), some (.int l1), some (.int l2), some (.int l3), some (.int l4)], [], M)
noncomputable def zg_Teller_splitWord_76 (X : zv_X) (l3 : Int32) (M : zv_M) : Option zv_R := zR X (75, 76, [none, none, none, some (.int l3), none], [], M)
noncomputable def zg_Teller_splitNumber_0 (X : zv_X) (l0 : Nat) (l1 l2 : Int32) (M : zv_M) : Option zv_R := zR X (76, 0, [some (.ref l0), some (.int l1), some (.int l2), none, none, none, none], [], M)
noncomputable def zg_Teller_splitNumber_15 (X : zv_X) (l0 : Nat) (l1 l2 : Int32) (M : zv_M) : Option zv_R := zR X (76, 15, [some (.ref l0), some (.int l1), some (.int l2), none, none, none, none], [], M)
noncomputable def zg_Teller_splitNumber_16 (X : zv_X) (l0 : Nat) (l1 l2 s0 : Int32) (M : zv_M) : Option zv_R := zR X (76, 16, [some (.ref l0), some (.int l1), some (.int l2), none, none, none, none], [.int s0], M)
noncomputable def zg_Teller_splitNumber_27 (X : zv_X) (l0 : Nat) (l1 l2 l3 : Int32) (M : zv_M) : Option zv_R := zR X (76, 27, [some (.ref l0), some (.int l1), some (.int l2), some (.int l3), none, none, none], [], M)
noncomputable def zg_Teller_splitNumber_28 (X : zv_X) (l0 : Nat) (l1 l3 s0 : Int32) (M : zv_M) : Option zv_R := zR X (76, 28, [some (.ref l0), some (.int l1), none, some (.int l3), none, none, none], [.int s0], M)
noncomputable def zg_Teller_splitNumber_36 (X : zv_X) (l0 : Nat) (l1 l3 l4 l5 l6 : Int32) (M : zv_M) : Option zv_R := zR X (76, 36, [some (.ref l0), some (.int l1), none, some (.int l3), some (.int l4), some (.int l5), some (.int l6)], [], M)
noncomputable def zg_Teller_splitNumber_83 (X : zv_X) (l0 : Nat) (l1 l3 l4 l5 l6 : Int32) (M : zv_M) : Option zv_R := zR X (76, 83, [some (.ref l0), some (.int l1), none, some (.int l3), some (.int l4), some (.int l5), some (.int l6)], [], M)
noncomputable def zg_Teller_splitNumber_85 (X : zv_X) (l0 : Nat) (l1 l3 l4 l5 s0 : Int32) (M : zv_M) : Option zv_R := zR X (76, 85, [some (.ref l0), some (.int l1), none, some (.int l3), some (.int l4), some (.int l5), none], [.int s0], M)
noncomputable def zg_Teller_splitNumber_93 (X : zv_X) (l0 : Nat) (l1 l3 l4 l5 l6 : Int32) (M : zv_M) : Option zv_R := zR X (76, 93, [some (.ref l0), some (.int l1), none, some (.int l3), some (.int l4), some (.int l5), some (.int l6)], [], M)
noncomputable def zg_Teller_splitNumber_115 (X : zv_X) (l0 : Nat) (l1 l3 l4 l6 s0 : Int32) (s1 : Nat) (M : zv_M) : Option zv_R := zR X (76, 115, [some (.ref l0), some (.int l1), none, some (.int l3), some (.int l4), none, some (.int l6)], [.int s0, .ref s1], M)
noncomputable def zg_Teller_splitNumber_116 (X : zv_X) (l0 : Nat) (l1 l3 l4 l6 s0 s1 : Int32) (s2 : Nat) (M : zv_M) : Option zv_R := zR X (76, 116, [some (.ref l0), some (.int l1), none, some (.int l3), some (.int l4), none, some (.int l6)], [.int s0, .int s1, .ref s2], M)
noncomputable def zg_Teller_splitNumber_132 (X : zv_X) (l4 l6 s0 : Int32) (s1 : Nat) (M : zv_M) : Option zv_R := zR X (76, 132, [none, none, none, none, some (.int l4), none, some (.int l6)], [.int s0, .ref s1], M)
noncomputable def zg_Teller_splitNumber_134 (X : zv_X) (l4 s0 s1 : Int32) (s2 : Nat) (M : zv_M) : Option zv_R := zR X (76, 134, [none, none, none, none, some (.int l4), none, none], [.int s0, .int s1, .ref s2], M)
noncomputable def zg_Teller_stands_0 (X : zv_X) (l0 l1 : Nat) (l2 l3 : Int32) (M : zv_M) : Option zv_R := zR X (77, 0, [some (.ref l0), some (.retAddr l1), some (.int l2), some (.int l3), none], [], M)
noncomputable def zg_Teller_stands_12 (X : zv_X) (l0 l1 : Nat) (l2 : Int32) (M : zv_M) : Option zv_R := zR X (77, 12, [some (.ref l0), some (.retAddr l1), some (.int l2), none, none], [], M)
noncomputable def zg_Teller_stands_15 (X : zv_X) (l0 l1 : Nat) (l2 l4 : Int32) (M : zv_M) : Option zv_R := zR X (77, 15, [some (.ref l0), some (.retAddr l1), some (.int l2), none, some (.int l4)], [], M)
noncomputable def zg_Teller_stands_44 (X : zv_X) (l0 l1 : Nat) (l2 l4 : Int32) (M : zv_M) : Option zv_R := zR X (77, 44, [some (.ref l0), some (.retAddr l1), some (.int l2), none, some (.int l4)], [], M)
noncomputable def zg_Teller_stands_50 (X : zv_X) (M : zv_M) : Option zv_R := zR X (77, 50, [none, none, none, none, none], [], M)
noncomputable def zg_Teller_isLetter_0 (X : zv_X) (l0 : Nat) (l1 : Int32) (M : zv_M) : Option zv_R := zR X (78, 0, [some (.ref l0), some (.int l1)], [], M)
noncomputable def zg_Teller_isLetter_22 (X : zv_X) (l0 : Nat) (l1 : Int32) (M : zv_M) : Option zv_R := zR X (78, 22, [some (.ref l0), some (.int l1)], [], M)
noncomputable def zg_Teller_isLetter_44 (X : zv_X) (M : zv_M) : Option zv_R := zR X (78, 44, [none, none], [], M)
noncomputable def zg_Teller_isLetter_48 (X : zv_X) (M : zv_M) : Option zv_R := zR X (78, 48, [none, none], [], M)
noncomputable def zg_Teller_isLetter_49 (X : zv_X) (s0 : Int32) (M : zv_M) : Option zv_R := zR X (78, 49, [none, none], [.int s0], M)
noncomputable def zg_Teller_isDigit_0 (X : zv_X) (l0 : Nat) (l1 : Int32) (M : zv_M) : Option zv_R := zR X (79, 0, [some (.ref l0), some (.int l1)], [], M)
noncomputable def zg_Teller_isDigit_26 (X : zv_X) (M : zv_M) : Option zv_R := zR X (79, 26, [none, none], [], M)
noncomputable def zg_Teller_isDigit_27 (X : zv_X) (s0 : Int32) (M : zv_M) : Option zv_R := zR X (79, 27, [none, none], [.int s0], M)
noncomputable def zg_Teller_keyword_0 (X : zv_X) (l0 : Int32) (M : zv_M) : Option zv_R := zR X (80, 0, [some (.int l0)], [], M)
noncomputable def zg_Teller_keyword_40 (X : zv_X) (M : zv_M) : Option zv_R := zR X (80, 40, [none], [], M)
noncomputable def zg_Teller_keyword_43 (X : zv_X) (M : zv_M) : Option zv_R := zR X (80, 43, [none], [], M)
noncomputable def zg_Teller_keyword_46 (X : zv_X) (M : zv_M) : Option zv_R := zR X (80, 46, [none], [], M)
noncomputable def zg_Teller_keyword_49 (X : zv_X) (M : zv_M) : Option zv_R := zR X (80, 49, [none], [], M)
noncomputable def zg_Teller_keyword_52 (X : zv_X) (M : zv_M) : Option zv_R := zR X (80, 52, [none], [], M)
noncomputable def zg_Teller_keyword_55 (X : zv_X) (M : zv_M) : Option zv_R := zR X (80, 55, [none], [], M)
noncomputable def zg_Teller_keyword_58 (X : zv_X) (M : zv_M) : Option zv_R := zR X (80, 58, [none], [], M)
noncomputable def zg_GP_init_0 (X : zv_X) (l0 : Nat) (M : zv_M) : Option zv_R := zR X (81, 0, [some (.ref l0)], [], M)
noncomputable def zg_GP_feed_0 (X : zv_X) (l0 : Nat) (l1 l2 l3 l4 l5 : Int32) (M : zv_M) : Option zv_R := zR X (82, 0, [some (.ref l0), some (.int l1), some (.int l2), some (.int l3), some (.int l4), some (.int l5)], [], M)
noncomputable def zg_GP_feed_18 (X : zv_X) (l0 : Nat) (l1 l2 l3 l4 l5 : Int32) (M : zv_M) : Option zv_R := zR X (82, 18, [some (.ref l0), some (.int l1), some (.int l2), some (.int l3), some (.int l4), some (.int l5)], [], M)
noncomputable def zg_GP_end_0 (X : zv_X) (l0 : Nat) (l1 : Int32) (M : zv_M) : Option zv_R := zR X (83, 0, [some (.ref l0), some (.int l1)], [], M)
noncomputable def zg_GP_end_15 (X : zv_X) (M : zv_M) : Option zv_R := zR X (83, 15, [none, none], [], M)
noncomputable def zg_GP_end_17 (X : zv_X) (l0 : Nat) (l1 : Int32) (M : zv_M) : Option zv_R := zR X (83, 17, [some (.ref l0), some (.int l1)], [], M)
noncomputable def zg_GP_text_0 (X : zv_X) (l0 : Nat) (M : zv_M) : Option zv_R := zR X (84, 0, [some (.ref l0)], [], M)
noncomputable def zg_GP_text_31 (X : zv_X) (l0 : Nat) (M : zv_M) : Option zv_R := zR X (84, 31, [some (.ref l0)], [], M)
noncomputable def zg_GP_fault_0 (X : zv_X) (l0 : Nat) (l1 : Int32) (M : zv_M) : Option zv_R := zR X (85, 0, [some (.ref l0), some (.int l1)], [], M)
noncomputable def zg_GP_fault_12 (X : zv_X) (l0 : Nat) (l1 : Int32) (M : zv_M) : Option zv_R := zR X (85, 12, [some (.ref l0), some (.int l1)], [], M)
noncomputable def zg_GP_fault_27 (X : zv_X) (M : zv_M) : Option zv_R := zR X (85, 27, [none, none], [], M)
noncomputable def zg_GP_fault_28 (X : zv_X) (s0 : Int32) (M : zv_M) : Option zv_R := zR X (85, 28, [none, none], [.int s0], M)
noncomputable def zg_GP_set_0 (X : zv_X) (l0 : Nat) (l1 l2 : Int32) (M : zv_M) : Option zv_R := zR X (86, 0, [some (.ref l0), some (.int l1), some (.int l2)], [], M)
noncomputable def zg_GP_set_10 (X : zv_X) (l0 : Nat) (l1 l2 : Int32) (M : zv_M) : Option zv_R := zR X (86, 10, [some (.ref l0), some (.int l1), some (.int l2)], [], M)
noncomputable def zg_GP_set_29 (X : zv_X) (l0 : Nat) (M : zv_M) : Option zv_R := zR X (86, 29, [some (.ref l0), none, none], [], M)
noncomputable def zg_GP_set_43 (X : zv_X) (M : zv_M) : Option zv_R := zR X (86, 43, [none, none, none], [], M)
noncomputable def zg_GP_insert_0 (X : zv_X) (l0 : Nat) (l1 : Int32) (M : zv_M) : Option zv_R := zR X (87, 0, [some (.ref l0), some (.int l1), none], [], M)
noncomputable def zg_GP_insert_22 (X : zv_X) (M : zv_M) : Option zv_R := zR X (87, 22, [none, none, none], [], M)
noncomputable def zg_GP_insert_24 (X : zv_X) (l0 : Nat) (l1 : Int32) (M : zv_M) : Option zv_R := zR X (87, 24, [some (.ref l0), some (.int l1), none], [], M)
noncomputable def zg_GP_insert_42 (X : zv_X) (l0 : Nat) (l1 : Int32) (M : zv_M) : Option zv_R := zR X (87, 42, [some (.ref l0), some (.int l1), none], [], M)
noncomputable def zg_GP_insert_43 (X : zv_X) (l0 : Nat) (l1 s0 : Int32) (M : zv_M) : Option zv_R := zR X (87, 43, [some (.ref l0), some (.int l1), none], [.int s0], M)
noncomputable def zg_GP_insert_106 (X : zv_X) (l0 : Nat) (l1 : Int32) (M : zv_M) : Option zv_R := zR X (87, 106, [some (.ref l0), some (.int l1), none], [], M)
noncomputable def zg_GP_remove_0 (X : zv_X) (l0 : Nat) (l1 : Int32) (M : zv_M) : Option zv_R := zR X (88, 0, [some (.ref l0), some (.int l1)], [], M)
noncomputable def zg_GP_remove_16 (X : zv_X) (l0 : Nat) (l1 : Int32) (M : zv_M) : Option zv_R := zR X (88, 16, [some (.ref l0), some (.int l1)], [], M)
noncomputable def zg_GP_undo_0 (X : zv_X) (l0 : Nat) (l1 : Int32) (M : zv_M) : Option zv_R := zR X (89, 0, [some (.ref l0), some (.int l1), none, none, none], [], M)
noncomputable def zg_GP_undo_22 (X : zv_X) (M : zv_M) : Option zv_R := zR X (89, 22, [none, none, none, none, none], [], M)
noncomputable def zg_GP_undo_25 (X : zv_X) (l0 : Nat) (l1 l2 : Int32) (M : zv_M) : Option zv_R := zR X (89, 25, [some (.ref l0), some (.int l1), some (.int l2), none, none], [], M)
noncomputable def zg_GP_undo_70 (X : zv_X) (l3 l4 s0 : Int32) (s1 : Nat) (M : zv_M) : Option zv_R := zR X (89, 70, [none, none, none, some (.int l3), some (.int l4)], [.int s0, .ref s1], M)
noncomputable def zg_GP_undo_72 (X : zv_X) (l3 s0 s1 : Int32) (s2 : Nat) (M : zv_M) : Option zv_R := zR X (89, 72, [none, none, none, some (.int l3), none], [.int s0, .int s1, .ref s2], M)
noncomputable def zg_GP_build_0 (X : zv_X) (l0 : Nat) (M : zv_M) : Option zv_R := zR X (90, 0, [some (.ref l0)], [], M)
noncomputable def zg_GP_count_0 (X : zv_X) (l0 : Nat) (l1 : Int32) (M : zv_M) : Option zv_R := zR X (91, 0, [some (.ref l0), some (.int l1)], [], M)
noncomputable def zg_GP_key_0 (X : zv_X) (l0 : Nat) (l1 : Int32) (M : zv_M) : Option zv_R := zR X (92, 0, [some (.ref l0), some (.int l1)], [], M)
noncomputable def zg_GP_key_33 (X : zv_X) (M : zv_M) : Option zv_R := zR X (92, 33, [none, none], [], M)
noncomputable def zg_GP_key_35 (X : zv_X) (s0 : Int32) (M : zv_M) : Option zv_R := zR X (92, 35, [none, none], [.int s0], M)
noncomputable def zg_GP_rank_0 (X : zv_X) (l0 : Nat) (l1 : Int32) (M : zv_M) : Option zv_R := zR X (93, 0, [some (.ref l0), some (.int l1)], [], M)
noncomputable def zg_GP_range_0 (X : zv_X) (l0 : Nat) (l1 l2 l3 : Int32) (M : zv_M) : Option zv_R := zR X (94, 0, [some (.ref l0), some (.int l1), some (.int l2), some (.int l3), none, none, none, none], [], M)
noncomputable def zg_GP_range_9 (X : zv_X) (M : zv_M) : Option zv_R := zR X (94, 9, [none, none, none, none, none, none, none, none], [], M)
noncomputable def zg_GP_range_13 (X : zv_X) (l0 : Nat) (l1 l2 l3 : Int32) (M : zv_M) : Option zv_R := zR X (94, 13, [some (.ref l0), some (.int l1), some (.int l2), some (.int l3), none, none, none, none], [], M)
noncomputable def zg_GP_range_33 (X : zv_X) (l2 l3 : Int32) (l4 : Nat) (l5 : Int64) (l7 : Int32) (M : zv_M) : Option zv_R := zR X (94, 33, [none, none, some (.int l2), some (.int l3), some (.ref l4), some (.long l5), none, some (.int l7)], [], M)
noncomputable def zg_GP_range_68 (X : zv_X) (l2 l3 : Int32) (l4 : Nat) (l5 : Int64) (l7 : Int32) (M : zv_M) : Option zv_R := zR X (94, 68, [none, none, some (.int l2), some (.int l3), some (.ref l4), some (.long l5), none, some (.int l7)], [], M)
noncomputable def zg_GP_range_87 (X : zv_X) (l2 l3 : Int32) (l4 : Nat) (l7 : Int32) (s0 : Int64) (M : zv_M) : Option zv_R := zR X (94, 87, [none, none, some (.int l2), some (.int l3), some (.ref l4), none, none, some (.int l7)], [.long s0], M)
noncomputable def zg_GP_range_106 (X : zv_X) (l2 l3 : Int32) (l4 : Nat) (l7 : Int32) (s0 s1 : Int64) (M : zv_M) : Option zv_R := zR X (94, 106, [none, none, some (.int l2), some (.int l3), some (.ref l4), none, none, some (.int l7)], [.long s0, .long s1], M)
noncomputable def zg_GP_range_109 (X : zv_X) (l2 l3 : Int32) (l4 : Nat) (l5 : Int64) (l7 : Int32) (M : zv_M) : Option zv_R := zR X (94, 109, [none, none, some (.int l2), some (.int l3), some (.ref l4), some (.long l5), none, some (.int l7)], [], M)
noncomputable def zg_GP_range_115 (X : zv_X) (l5 : Int64) (M : zv_M) : Option zv_R := zR X (94, 115, [none, none, none, none, none, some (.long l5), none, none], [], M)
noncomputable def zg_GP_piece_0 (X : zv_X) (l0 : Nat) (l1 l2 l3 : Int32) (M : zv_M) : Option zv_R := zR X (95, 0, [some (.ref l0), some (.int l1), some (.int l2), some (.int l3), none], [], M)
noncomputable def zg_GP_piece_12 (X : zv_X) (l0 : Nat) (l1 l2 l3 : Int32) (M : zv_M) : Option zv_R := zR X (95, 12, [some (.ref l0), some (.int l1), some (.int l2), some (.int l3), none], [], M)
noncomputable def zg_GP_piece_60 (X : zv_X) (l2 : Int32) (l4 : Nat) (M : zv_M) : Option zv_R := zR X (95, 60, [none, none, some (.int l2), none, some (.ref l4)], [], M)
noncomputable def zg_GP_piece_68 (X : zv_X) (l2 : Int32) (l4 : Nat) (M : zv_M) : Option zv_R := zR X (95, 68, [none, none, some (.int l2), none, some (.ref l4)], [], M)
noncomputable def zg_GP_piece_75 (X : zv_X) (l2 : Int32) (l4 : Nat) (M : zv_M) : Option zv_R := zR X (95, 75, [none, none, some (.int l2), none, some (.ref l4)], [], M)
noncomputable def zg_GP_piece_83 (X : zv_X) (l2 : Int32) (l4 : Nat) (M : zv_M) : Option zv_R := zR X (95, 83, [none, none, some (.int l2), none, some (.ref l4)], [], M)
noncomputable def zg_GP_piece_91 (X : zv_X) (l2 : Int32) (l4 : Nat) (M : zv_M) : Option zv_R := zR X (95, 91, [none, none, some (.int l2), none, some (.ref l4)], [], M)
noncomputable def zg_GP_piece_98 (X : zv_X) (M : zv_M) : Option zv_R := zR X (95, 98, [none, none, none, none, none], [], M)
noncomputable def zg_GP_guess_0 (X : zv_X) (l0 : Nat) (l1 l2 l3 : Int32) (M : zv_M) : Option zv_R := zR X (96, 0, [some (.ref l0), some (.int l1), some (.int l2), some (.int l3)], [], M)
noncomputable def zg_GP_guess_26 (X : zv_X) (M : zv_M) : Option zv_R := zR X (96, 26, [none, none, none, none], [], M)
noncomputable def zg_GP_guess_27 (X : zv_X) (s0 : Int32) (M : zv_M) : Option zv_R := zR X (96, 27, [none, none, none, none], [.int s0], M)
noncomputable def zg_GP_seek_0 (X : zv_X) (l0 : Nat) (l1 l2 : Int32) (M : zv_M) : Option zv_R := zR X (97, 0, [some (.ref l0), some (.int l1), some (.int l2), none], [], M)
noncomputable def zg_GP_seek_9 (X : zv_X) (M : zv_M) : Option zv_R := zR X (97, 9, [none, none, none, none], [], M)
noncomputable def zg_GP_seek_11 (X : zv_X) (l0 : Nat) (l1 l2 : Int32) (M : zv_M) : Option zv_R := zR X (97, 11, [some (.ref l0), some (.int l1), some (.int l2), none], [], M)
noncomputable def zg_GP_seek_27 (X : zv_X) (l0 : Nat) (l1 l2 : Int32) (M : zv_M) : Option zv_R := zR X (97, 27, [some (.ref l0), some (.int l1), some (.int l2), none], [], M)
noncomputable def zg_GP_seek_35 (X : zv_X) (l0 : Nat) (l2 s0 : Int32) (M : zv_M) : Option zv_R := zR X (97, 35, [some (.ref l0), none, some (.int l2), none], [.int s0], M)
noncomputable def zg_GP_seek_44 (X : zv_X) (l0 : Nat) (M : zv_M) : Option zv_R := zR X (97, 44, [some (.ref l0), none, none, none], [], M)
noncomputable def zg_GP_seek_51 (X : zv_X) (s0 : Int32) (M : zv_M) : Option zv_R := zR X (97, 51, [none, none, none, none], [.int s0], M)
noncomputable def zg_GP_pages_0 (X : zv_X) (l0 : Nat) (l1 : Int32) (M : zv_M) : Option zv_R := zR X (98, 0, [some (.ref l0), some (.int l1)], [], M)
noncomputable def zg_GP_pages_21 (X : zv_X) (l0 : Nat) (l1 : Int32) (M : zv_M) : Option zv_R := zR X (98, 21, [some (.ref l0), some (.int l1)], [], M)
noncomputable def zg_GP_pages_43 (X : zv_X) (M : zv_M) : Option zv_R := zR X (98, 43, [none, none], [], M)
noncomputable def zg_GP_pages_44 (X : zv_X) (s0 : Int32) (M : zv_M) : Option zv_R := zR X (98, 44, [none, none], [.int s0], M)
noncomputable def zg_GP_errors_0 (X : zv_X) (l0 : Nat) (l1 l2 : Int32) (M : zv_M) : Option zv_R := zR X (99, 0, [some (.ref l0), some (.int l1), some (.int l2), none, none, none, none, none, none, none], [], M)
noncomputable def zg_GP_errors_24 (X : zv_X) (M : zv_M) : Option zv_R := zR X (99, 24, [none, none, none, none, none, none, none, none, none, none], [], M)
noncomputable def zg_GP_errors_26 (X : zv_X) (l0 : Nat) (l1 l2 : Int32) (M : zv_M) : Option zv_R := zR X (99, 26, [some (.ref l0), some (.int l1), some (.int l2), none, none, none, none, none, none, none], [], M)
noncomputable def zg_GP_errors_48 (X : zv_X) (l2 : Int32) (l3 : Nat) (l4 l5 l6 l7 : Int32) (M : zv_M) : Option zv_R := zR X (99, 48, [none, none, some (.int l2), some (.ref l3), some (.int l4), some (.int l5), some (.int l6), some (.int l7), none, none], [], M)
noncomputable def zg_GP_errors_66 (X : zv_X) (l2 : Int32) (l3 : Nat) (l4 l5 l6 l7 l8 : Int32) (M : zv_M) : Option zv_R := zR X (99, 66, [none, none, some (.int l2), some (.ref l3), some (.int l4), some (.int l5), some (.int l6), some (.int l7), some (.int l8), none], [], M)
noncomputable def zg_GP_errors_120 (X : zv_X) (l2 : Int32) (l3 : Nat) (l4 l5 l6 l7 l8 : Int32) (M : zv_M) : Option zv_R := zR X (99, 120, [none, none, some (.int l2), some (.ref l3), some (.int l4), some (.int l5), some (.int l6), some (.int l7), some (.int l8), none], [], M)
noncomputable def zg_GP_errors_126 (X : zv_X) (l2 : Int32) (l3 : Nat) (l4 l5 l6 l7 : Int32) (M : zv_M) : Option zv_R := zR X (99, 126, [none, none, some (.int l2), some (.ref l3), some (.int l4), some (.int l5), some (.int l6), some (.int l7), none, none], [], M)
noncomputable def zg_GP_errors_132 (X : zv_X) (l2 l4 l5 l6 : Int32) (M : zv_M) : Option zv_R := zR X (99, 132, [none, none, some (.int l2), none, some (.int l4), some (.int l5), some (.int l6), none, none, none], [], M)
noncomputable def zg_GP_errors_139 (X : zv_X) (l2 l5 l6 : Int32) (M : zv_M) : Option zv_R := zR X (99, 139, [none, none, some (.int l2), none, none, some (.int l5), some (.int l6), none, none, none], [], M)
noncomputable def zg_GP_errors_149 (X : zv_X) (l6 : Int32) (M : zv_M) : Option zv_R := zR X (99, 149, [none, none, none, none, none, none, some (.int l6), none, none, none], [], M)
noncomputable def zg_GP_errors_151 (X : zv_X) (s0 : Int32) (M : zv_M) : Option zv_R := zR X (99, 151, [none, none, none, none, none, none, none, none, none, none], [.int s0], M)
noncomputable def zg_GP_bestSlack_0 (X : zv_X) (l0 : Nat) (l1 : Int32) (M : zv_M) : Option zv_R := zR X (100, 0, [some (.ref l0), some (.int l1), none, none, none, none], [], M)
noncomputable def zg_GP_bestSlack_11 (X : zv_X) (l0 : Nat) (l1 : Int32) (M : zv_M) : Option zv_R := zR X (100, 11, [some (.ref l0), some (.int l1), none, none, none, none], [], M)
noncomputable def zg_GP_bestSlack_22 (X : zv_X) (l0 : Nat) (l1 l2 l3 l4 : Int32) (M : zv_M) : Option zv_R := zR X (100, 22, [some (.ref l0), some (.int l1), some (.int l2), some (.int l3), some (.int l4), none], [], M)
noncomputable def zg_GP_bestSlack_97 (X : zv_X) (l0 : Nat) (l1 l4 l5 : Int32) (M : zv_M) : Option zv_R := zR X (100, 97, [some (.ref l0), some (.int l1), none, none, some (.int l4), some (.int l5)], [], M)
noncomputable def zg_GP_bestSlack_103 (X : zv_X) (l0 : Nat) (l1 l2 l3 l4 : Int32) (M : zv_M) : Option zv_R := zR X (100, 103, [some (.ref l0), some (.int l1), some (.int l2), some (.int l3), some (.int l4), none], [], M)
noncomputable def zg_GP_bestSlack_109 (X : zv_X) (l1 l2 l3 : Int32) (M : zv_M) : Option zv_R := zR X (100, 109, [none, some (.int l1), some (.int l2), some (.int l3), none, none], [], M)
noncomputable def zg_GP_bestSlack_117 (X : zv_X) (l3 : Int32) (M : zv_M) : Option zv_R := zR X (100, 117, [none, none, none, some (.int l3), none, none], [], M)
noncomputable def zg_GP_bestSlack_118 (X : zv_X) (s0 : Int32) (M : zv_M) : Option zv_R := zR X (100, 118, [none, none, none, none, none, none], [.int s0], M)
noncomputable def zg_GP_lay_0 (X : zv_X) (l0 : Nat) (M : zv_M) : Option zv_R := zR X (101, 0, [some (.ref l0)], [], M)
noncomputable def zg_GP_put_0 (X : zv_X) (l0 : Nat) (l1 : Int32) (M : zv_M) : Option zv_R := zR X (102, 0, [some (.ref l0), some (.int l1)], [], M)
noncomputable def zg_GP_put_21 (X : zv_X) (M : zv_M) : Option zv_R := zR X (102, 21, [none, none], [], M)
noncomputable def zg_GP_put_22 (X : zv_X) (s0 : Int32) (M : zv_M) : Option zv_R := zR X (102, 22, [none, none], [.int s0], M)
noncomputable def zg_GP_cell_0 (X : zv_X) (l0 : Nat) (l1 : Int32) (M : zv_M) : Option zv_R := zR X (103, 0, [some (.ref l0), some (.int l1)], [], M)
noncomputable def zg_GP_cell_25 (X : zv_X) (M : zv_M) : Option zv_R := zR X (103, 25, [none, none], [], M)
noncomputable def zg_GP_cell_27 (X : zv_X) (s0 : Int32) (M : zv_M) : Option zv_R := zR X (103, 27, [none, none], [.int s0], M)
noncomputable def zg_GP_poison_0 (X : zv_X) (l0 : Nat) (l1 : Int32) (M : zv_M) : Option zv_R := zR X (104, 0, [some (.ref l0), some (.int l1), none, none, none, none, none, none], [], M)
noncomputable def zg_GP_poison_11 (X : zv_X) (l0 : Nat) (l1 : Int32) (M : zv_M) : Option zv_R := zR X (104, 11, [some (.ref l0), some (.int l1), none, none, none, none, none, none], [], M)
noncomputable def zg_GP_poison_61 (X : zv_X) (l0 : Nat) (l1 : Int32) (l2 : Nat) (l3 l4 l5 : Int32) (M : zv_M) : Option zv_R := zR X (104, 61, [some (.ref l0), some (.int l1), some (.ref l2), some (.int l3), some (.int l4), some (.int l5), none, none], [], M)
noncomputable def zg_GP_poison_92 (X : zv_X) (l0 : Nat) (l1 : Int32) (l2 : Nat) (l3 l4 l5 s0 : Int32) (M : zv_M) : Option zv_R := zR X (104, 92, [some (.ref l0), some (.int l1), some (.ref l2), some (.int l3), some (.int l4), some (.int l5), none, none], [.int s0], M)
noncomputable def zg_GP_poison_93 (X : zv_X) (l0 : Nat) (l1 : Int32) (l2 : Nat) (l3 l4 l5 s0 s1 : Int32) (M : zv_M) : Option zv_R := zR X (104, 93, [some (.ref l0), some (.int l1), some (.ref l2), some (.int l3), some (.int l4), some (.int l5), none, none], [.int s0, .int s1], M)
noncomputable def zg_GP_poison_135 (X : zv_X) (l0 : Nat) (l1 : Int32) (l2 : Nat) (l3 l4 l5 : Int32) (M : zv_M) : Option zv_R := zR X (104, 135, [some (.ref l0), some (.int l1), some (.ref l2), some (.int l3), some (.int l4), some (.int l5), none, none], [], M)
noncomputable def zg_GP_poison_141 (X : zv_X) (l1 l3 l4 : Int32) (M : zv_M) : Option zv_R := zR X (104, 141, [none, some (.int l1), none, some (.int l3), some (.int l4), none, none, none], [], M)
noncomputable def zg_GP_poison_149 (X : zv_X) (l4 : Int32) (M : zv_M) : Option zv_R := zR X (104, 149, [none, none, none, none, some (.int l4), none, none, none], [], M)
noncomputable def zg_GP_poison_151 (X : zv_X) (s0 : Int32) (M : zv_M) : Option zv_R := zR X (104, 151, [none, none, none, none, none, none, none, none], [.int s0], M)
noncomputable def zg_GP_passes_0 (X : zv_X) (l0 : Nat) (l1 l2 : Int32) (M : zv_M) : Option zv_R := zR X (105, 0, [some (.ref l0), some (.int l1), some (.int l2)], [], M)
noncomputable def zg_GP_falses_0 (X : zv_X) (l0 : Nat) (l1 l2 l3 : Int32) (M : zv_M) : Option zv_R := zR X (106, 0, [some (.ref l0), some (.int l1), some (.int l2), some (.int l3), none, none, none, none], [], M)
noncomputable def zg_GP_falses_25 (X : zv_X) (M : zv_M) : Option zv_R := zR X (106, 25, [none, none, none, none, none, none, none, none], [], M)
noncomputable def zg_GP_falses_27 (X : zv_X) (l0 : Nat) (l1 l3 : Int32) (l4 : Int64) (M : zv_M) : Option zv_R := zR X (106, 27, [some (.ref l0), some (.int l1), none, some (.int l3), some (.long l4), none, none, none], [], M)
noncomputable def zg_GP_falses_45 (X : zv_X) (l0 : Nat) (l1 : Int32) (l4 : Int64) (l6 l7 : Int32) (M : zv_M) : Option zv_R := zR X (106, 45, [some (.ref l0), some (.int l1), none, none, some (.long l4), none, some (.int l6), some (.int l7)], [], M)
noncomputable def zg_GP_falses_88 (X : zv_X) (l0 : Nat) (l1 : Int32) (l4 : Int64) (l6 l7 : Int32) (M : zv_M) : Option zv_R := zR X (106, 88, [some (.ref l0), some (.int l1), none, none, some (.long l4), none, some (.int l6), some (.int l7)], [], M)
noncomputable def zg_GP_falses_94 (X : zv_X) (l6 : Int32) (M : zv_M) : Option zv_R := zR X (106, 94, [none, none, none, none, none, none, some (.int l6), none], [], M)
noncomputable def zg_GP_point_0 (X : zv_X) (l0 : Nat) (l1 l2 : Int32) (M : zv_M) : Option zv_R := zR X (107, 0, [some (.ref l0), some (.int l1), some (.int l2)], [], M)
noncomputable def zg_GP_box_0 (X : zv_X) (l0 : Nat) (l1 l2 l3 l4 : Int32) (M : zv_M) : Option zv_R := zR X (108, 0, [some (.ref l0), some (.int l1), some (.int l2), some (.int l3), some (.int l4)], [], M)
noncomputable def zg_GP_boxed_0 (X : zv_X) (l0 : Nat) (l1 l2 : Int32) (M : zv_M) : Option zv_R := zR X (109, 0, [some (.ref l0), some (.int l1), some (.int l2)], [], M)
noncomputable def zg_GP_boxed_27 (X : zv_X) (M : zv_M) : Option zv_R := zR X (109, 27, [none, none, none], [], M)
noncomputable def zg_GP_boxed_29 (X : zv_X) (l0 : Nat) (l1 l2 : Int32) (M : zv_M) : Option zv_R := zR X (109, 29, [some (.ref l0), some (.int l1), some (.int l2)], [], M)
noncomputable def zg_GP_boxed_47 (X : zv_X) (l0 : Nat) (l1 l2 : Int32) (M : zv_M) : Option zv_R := zR X (109, 47, [some (.ref l0), some (.int l1), some (.int l2)], [], M)
noncomputable def zg_GP_boxed_61 (X : zv_X) (s0 : Int32) (M : zv_M) : Option zv_R := zR X (109, 61, [none, none, none], [.int s0], M)
noncomputable def zg_GP_bestOrder_0 (X : zv_X) (l0 : Nat) (M : zv_M) : Option zv_R := zR X (110, 0, [some (.ref l0), none, none, none, none, none], [], M)
noncomputable def zg_GP_bestOrder_6 (X : zv_X) (l0 : Nat) (l1 l2 l3 : Int32) (M : zv_M) : Option zv_R := zR X (110, 6, [some (.ref l0), some (.int l1), some (.int l2), some (.int l3), none, none], [], M)
noncomputable def zg_GP_bestOrder_17 (X : zv_X) (l0 : Nat) (l1 l2 l3 l4 l5 : Int32) (M : zv_M) : Option zv_R := zR X (110, 17, [some (.ref l0), some (.int l1), some (.int l2), some (.int l3), some (.int l4), some (.int l5)], [], M)
noncomputable def zg_GP_bestOrder_56 (X : zv_X) (l0 : Nat) (l1 l2 l3 l4 : Int32) (M : zv_M) : Option zv_R := zR X (110, 56, [some (.ref l0), some (.int l1), some (.int l2), some (.int l3), some (.int l4), none], [], M)
noncomputable def zg_GP_bestOrder_66 (X : zv_X) (l0 : Nat) (l3 l4 : Int32) (M : zv_M) : Option zv_R := zR X (110, 66, [some (.ref l0), none, none, some (.int l3), some (.int l4), none], [], M)
noncomputable def zg_GP_bestOrder_71 (X : zv_X) (l0 : Nat) (l1 l2 l3 : Int32) (M : zv_M) : Option zv_R := zR X (110, 71, [some (.ref l0), some (.int l1), some (.int l2), some (.int l3), none, none], [], M)
noncomputable def zg_GP_bestOrder_77 (X : zv_X) (l1 : Int32) (M : zv_M) : Option zv_R := zR X (110, 77, [none, some (.int l1), none, none, none, none], [], M)
noncomputable def zg_GP_image_0 (X : zv_X) (l0 : Nat) (l1 : Int32) (M : zv_M) : Option zv_R := zR X (111, 0, [some (.ref l0), some (.int l1)], [], M)
noncomputable def zg_GP_image_23 (X : zv_X) (l0 : Nat) (M : zv_M) : Option zv_R := zR X (111, 23, [some (.ref l0), none], [], M)
noncomputable def zg_GP_image_80 (X : zv_X) (l0 : Nat) (M : zv_M) : Option zv_R := zR X (111, 80, [some (.ref l0), none], [], M)
noncomputable def zg_GP_look_0 (X : zv_X) (l0 : Nat) (l1 : Int32) (M : zv_M) : Option zv_R := zR X (112, 0, [some (.ref l0), some (.int l1)], [], M)
noncomputable def zg_GP_look_36 (X : zv_X) (l0 : Nat) (l1 : Int32) (M : zv_M) : Option zv_R := zR X (112, 36, [some (.ref l0), some (.int l1)], [], M)
noncomputable def zg_GP_look_61 (X : zv_X) (l0 : Nat) (l1 : Int32) (M : zv_M) : Option zv_R := zR X (112, 61, [some (.ref l0), some (.int l1)], [], M)
noncomputable def zg_GP_look_116 (X : zv_X) (l0 : Nat) (M : zv_M) : Option zv_R := zR X (112, 116, [some (.ref l0), none], [], M)
noncomputable def zg_GP_look_127 (X : zv_X) (l0 : Nat) (M : zv_M) : Option zv_R := zR X (112, 127, [some (.ref l0), none], [], M)
noncomputable def zg_GP_look_135 (X : zv_X) (l0 : Nat) (M : zv_M) : Option zv_R := zR X (112, 135, [some (.ref l0), none], [], M)
noncomputable def zg_GP_look_143 (X : zv_X) (l0 : Nat) (M : zv_M) : Option zv_R := zR X (112, 143, [some (.ref l0), none], [], M)
noncomputable def zg_GP_look_159 (X : zv_X) (l0 : Nat) (M : zv_M) : Option zv_R := zR X (112, 159, [some (.ref l0), none], [], M)
noncomputable def zg_GP_look_167 (X : zv_X) (l0 : Nat) (M : zv_M) : Option zv_R := zR X (112, 167, [some (.ref l0), none], [], M)
noncomputable def zg_GP_look_175 (X : zv_X) (l0 : Nat) (M : zv_M) : Option zv_R := zR X (112, 175, [some (.ref l0), none], [], M)
noncomputable def zg_GP_look_186 (X : zv_X) (l0 : Nat) (M : zv_M) : Option zv_R := zR X (112, 186, [some (.ref l0), none], [], M)
noncomputable def zg_GP_look_197 (X : zv_X) (l0 : Nat) (M : zv_M) : Option zv_R := zR X (112, 197, [some (.ref l0), none], [], M)
noncomputable def zg_GP_look_208 (X : zv_X) (l0 : Nat) (M : zv_M) : Option zv_R := zR X (112, 208, [some (.ref l0), none], [], M)
noncomputable def zg_GP_look_219 (X : zv_X) (M : zv_M) : Option zv_R := zR X (112, 219, [none, none], [], M)
noncomputable def zg_GP_buildAll_0 (X : zv_X) (l0 : Nat) (M : zv_M) : Option zv_R := zR X (113, 0, [some (.ref l0)], [], M)
noncomputable def zg_GP_isPiece_0 (X : zv_X) (l0 : Nat) (l1 l2 : Int32) (M : zv_M) : Option zv_R := zR X (114, 0, [some (.ref l0), some (.int l1), some (.int l2)], [], M)
noncomputable def zg_GP_isPiece_39 (X : zv_X) (M : zv_M) : Option zv_R := zR X (114, 39, [none, none, none], [], M)
noncomputable def zg_GP_isPiece_40 (X : zv_X) (s0 : Int32) (M : zv_M) : Option zv_R := zR X (114, 40, [none, none, none], [.int s0], M)
noncomputable def zg_GP_treeHeight_0 (X : zv_X) (l0 : Nat) (M : zv_M) : Option zv_R := zR X (115, 0, [some (.ref l0), none, none, none], [], M)
noncomputable def zg_GP_treeHeight_4 (X : zv_X) (l0 : Nat) (l1 : Int32) (l2 : Int64) (M : zv_M) : Option zv_R := zR X (115, 4, [some (.ref l0), some (.int l1), some (.long l2), none], [], M)
noncomputable def zg_GP_treeHeight_43 (X : zv_X) (l1 : Int32) (M : zv_M) : Option zv_R := zR X (115, 43, [none, some (.int l1), none, none], [], M)
noncomputable def zg_GP_piecesWith_0 (X : zv_X) (l0 : Nat) (l1 : Int32) (M : zv_M) : Option zv_R := zR X (116, 0, [some (.ref l0), some (.int l1), none, none, none, none, none, none, none], [], M)
noncomputable def zg_GP_piecesWith_75 (X : zv_X) (l0 l2 l3 : Nat) (l4 l5 : Int32) (M : zv_M) : Option zv_R := zR X (116, 75, [some (.ref l0), none, some (.ref l2), some (.ref l3), some (.int l4), some (.int l5), none, none, none], [], M)
noncomputable def zg_GP_piecesWith_106 (X : zv_X) (l0 l2 l3 : Nat) (l4 l5 : Int32) (M : zv_M) : Option zv_R := zR X (116, 106, [some (.ref l0), none, some (.ref l2), some (.ref l3), some (.int l4), some (.int l5), none, none, none], [], M)
noncomputable def zg_GP_piecesWith_122 (X : zv_X) (l0 l2 l3 : Nat) (l4 l5 l6 l7 l8 : Int32) (M : zv_M) : Option zv_R := zR X (116, 122, [some (.ref l0), none, some (.ref l2), some (.ref l3), some (.int l4), some (.int l5), some (.int l6), some (.int l7), some (.int l8)], [], M)
noncomputable def zg_GP_piecesWith_178 (X : zv_X) (l0 l2 l3 : Nat) (l4 l5 l6 l7 l8 : Int32) (M : zv_M) : Option zv_R := zR X (116, 178, [some (.ref l0), none, some (.ref l2), some (.ref l3), some (.int l4), some (.int l5), some (.int l6), some (.int l7), some (.int l8)], [], M)
noncomputable def zg_GP_piecesWith_207 (X : zv_X) (l0 l2 l3 : Nat) (l4 l5 l6 l7 l8 : Int32) (M : zv_M) : Option zv_R := zR X (116, 207, [some (.ref l0), none, some (.ref l2), some (.ref l3), some (.int l4), some (.int l5), some (.int l6), some (.int l7), some (.int l8)], [], M)
noncomputable def zg_GP_piecesWith_248 (X : zv_X) (l0 l2 l3 : Nat) (l4 l5 l6 l7 l8 : Int32) (M : zv_M) : Option zv_R := zR X (116, 248, [some (.ref l0), none, some (.ref l2), some (.ref l3), some (.int l4), some (.int l5), some (.int l6), some (.int l7), some (.int l8)], [], M)
noncomputable def zg_GP_piecesWith_254 (X : zv_X) (l6 : Int32) (M : zv_M) : Option zv_R := zR X (116, 254, [none, none, none, none, none, none, some (.int l6), none, none], [], M)
noncomputable def zg_GP_canBeKey_0 (X : zv_X) (l0 : Int32) (M : zv_M) : Option zv_R := zR X (117, 0, [some (.int l0)], [], M)
noncomputable def zg_GP_canBeKey_18 (X : zv_X) (M : zv_M) : Option zv_R := zR X (117, 18, [none], [], M)
noncomputable def zg_GP_canBeKey_19 (X : zv_X) (s0 : Int32) (M : zv_M) : Option zv_R := zR X (117, 19, [none], [.int s0], M)
noncomputable def zg_GP_canBeTold_0 (X : zv_X) (l0 l1 : Int32) (M : zv_M) : Option zv_R := zR X (118, 0, [some (.int l0), some (.int l1)], [], M)
noncomputable def zg_GP_canBeTold_32 (X : zv_X) (M : zv_M) : Option zv_R := zR X (118, 32, [none, none], [], M)
noncomputable def zg_GP_canBeTold_33 (X : zv_X) (s0 : Int32) (M : zv_M) : Option zv_R := zR X (118, 33, [none, none], [.int s0], M)
noncomputable def zg_GP_lessThan_0 (X : zv_X) (l0 : Nat) (l1 l2 : Int32) (M : zv_M) : Option zv_R := zR X (119, 0, [some (.ref l0), some (.int l1), some (.int l2), none, none, none, none], [], M)
noncomputable def zg_GP_lessThan_8 (X : zv_X) (l0 : Nat) (l2 l3 l4 l5 : Int32) (M : zv_M) : Option zv_R := zR X (119, 8, [some (.ref l0), none, some (.int l2), some (.int l3), some (.int l4), some (.int l5), none], [], M)
noncomputable def zg_GP_lessThan_45 (X : zv_X) (l0 : Nat) (l2 l3 l5 l6 : Int32) (M : zv_M) : Option zv_R := zR X (119, 45, [some (.ref l0), none, some (.int l2), some (.int l3), none, some (.int l5), some (.int l6)], [], M)
noncomputable def zg_GP_lessThan_49 (X : zv_X) (l0 : Nat) (l2 l3 l4 l5 : Int32) (M : zv_M) : Option zv_R := zR X (119, 49, [some (.ref l0), none, some (.int l2), some (.int l3), some (.int l4), some (.int l5), none], [], M)
noncomputable def zg_GP_lessThan_55 (X : zv_X) (l3 : Int32) (M : zv_M) : Option zv_R := zR X (119, 55, [none, none, none, some (.int l3), none, none, none], [], M)
noncomputable def zg_M_init_0 (X : zv_X) (l0 : Nat) (M : zv_M) : Option zv_R := zR X (120, 0, [some (.ref l0)], [], M)
noncomputable def zg_M_isIn_0 (X : zv_X) (l0 l1 l2 : Int32) (M : zv_M) : Option zv_R := zR X (121, 0, [some (.int l0), some (.int l1), some (.int l2)], [], M)
noncomputable def zg_M_isIn_14 (X : zv_X) (M : zv_M) : Option zv_R := zR X (121, 14, [none, none, none], [], M)
noncomputable def zg_M_isIn_15 (X : zv_X) (s0 : Int32) (M : zv_M) : Option zv_R := zR X (121, 15, [none, none, none], [.int s0], M)
noncomputable def zg_M_isNumber_0 (X : zv_X) (l0 : Int32) (M : zv_M) : Option zv_R := zR X (122, 0, [some (.int l0)], [], M)
noncomputable def zg_M_placeIn_0 (X : zv_X) (l0 : Nat) (l1 l2 l3 : Int32) (M : zv_M) : Option zv_R := zR X (123, 0, [some (.ref l0), some (.int l1), some (.int l2), some (.int l3), none], [], M)
noncomputable def zg_M_placeIn_3 (X : zv_X) (l0 : Nat) (l1 l2 l3 l4 : Int32) (M : zv_M) : Option zv_R := zR X (123, 3, [some (.ref l0), some (.int l1), some (.int l2), some (.int l3), some (.int l4)], [], M)
noncomputable def zg_M_placeIn_28 (X : zv_X) (l4 : Int32) (M : zv_M) : Option zv_R := zR X (123, 28, [none, none, none, none, some (.int l4)], [], M)
noncomputable def zg_M_isAt_0 (X : zv_X) (l0 : Nat) (l1 l2 l3 l4 : Int32) (M : zv_M) : Option zv_R := zR X (124, 0, [some (.ref l0), some (.int l1), some (.int l2), some (.int l3), some (.int l4)], [], M)
noncomputable def zg_M_isAt_22 (X : zv_X) (M : zv_M) : Option zv_R := zR X (124, 22, [none, none, none, none, none], [], M)
noncomputable def zg_M_isAt_23 (X : zv_X) (s0 : Int32) (M : zv_M) : Option zv_R := zR X (124, 23, [none, none, none, none, none], [.int s0], M)
noncomputable def zg_M_count_0 (X : zv_X) (l0 : Nat) (l1 : Int32) (M : zv_M) : Option zv_R := zR X (125, 0, [some (.ref l0), some (.int l1), none, none], [], M)
noncomputable def zg_M_count_44 (X : zv_X) (l0 : Nat) (l1 : Int32) (M : zv_M) : Option zv_R := zR X (125, 44, [some (.ref l0), some (.int l1), none, none], [], M)
noncomputable def zg_M_count_92 (X : zv_X) (M : zv_M) : Option zv_R := zR X (125, 92, [none, none, none, none], [], M)
noncomputable def zg_M_count_93 (X : zv_X) (s0 : Int32) (M : zv_M) : Option zv_R := zR X (125, 93, [none, none, none, none], [.int s0], M)
noncomputable def zg_M_gone_0 (X : zv_X) (l0 : Nat) (M : zv_M) : Option zv_R := zR X (126, 0, [some (.ref l0), none, none], [], M)
noncomputable def zg_M_gone_4 (X : zv_X) (l0 : Nat) (l1 l2 : Int32) (M : zv_M) : Option zv_R := zR X (126, 4, [some (.ref l0), some (.int l1), some (.int l2)], [], M)
noncomputable def zg_M_gone_33 (X : zv_X) (l0 : Nat) (l2 s0 : Int32) (M : zv_M) : Option zv_R := zR X (126, 33, [some (.ref l0), none, some (.int l2)], [.int s0], M)
noncomputable def zg_M_gone_34 (X : zv_X) (l0 : Nat) (l2 s0 s1 : Int32) (M : zv_M) : Option zv_R := zR X (126, 34, [some (.ref l0), none, some (.int l2)], [.int s0, .int s1], M)
noncomputable def zg_M_gone_42 (X : zv_X) (l1 : Int32) (M : zv_M) : Option zv_R := zR X (126, 42, [none, some (.int l1), none], [], M)
noncomputable def zg_M_keys_0 (X : zv_X) (l0 : Nat) (M : zv_M) : Option zv_R := zR X (127, 0, [some (.ref l0)], [], M)
noncomputable def zg_M_counts_0 (X : zv_X) (l0 : Nat) (l1 l2 : Int32) (M : zv_M) : Option zv_R := zR X (128, 0, [some (.ref l0), some (.int l1), some (.int l2), none, none, none], [], M)
noncomputable def zg_M_counts_45 (X : zv_X) (l0 : Nat) (l1 l2 : Int32) (M : zv_M) : Option zv_R := zR X (128, 45, [some (.ref l0), some (.int l1), some (.int l2), none, none, none], [], M)
noncomputable def zg_M_counts_99 (X : zv_X) (l0 : Nat) (l4 : Int32) (M : zv_M) : Option zv_R := zR X (128, 99, [some (.ref l0), none, none, none, some (.int l4), none], [], M)
noncomputable def zg_M_counts_114 (X : zv_X) (l0 : Nat) (l5 : Int32) (M : zv_M) : Option zv_R := zR X (128, 114, [some (.ref l0), none, none, none, none, some (.int l5)], [], M)
noncomputable def zg_M_counts_180 (X : zv_X) (M : zv_M) : Option zv_R := zR X (128, 180, [none, none, none, none, none, none], [], M)
noncomputable def zg_M_counts_181 (X : zv_X) (l0 : Nat) (l1 l2 l4 : Int32) (M : zv_M) : Option zv_R := zR X (128, 181, [some (.ref l0), some (.int l1), some (.int l2), none, some (.int l4), none], [], M)
noncomputable def zg_M_counts_186 (X : zv_X) (l0 : Nat) (l1 l2 l4 : Int32) (M : zv_M) : Option zv_R := zR X (128, 186, [some (.ref l0), some (.int l1), some (.int l2), none, some (.int l4), none], [], M)
noncomputable def zg_M_counts_195 (X : zv_X) (l0 : Nat) (l1 l2 l4 l5 : Int32) (M : zv_M) : Option zv_R := zR X (128, 195, [some (.ref l0), some (.int l1), some (.int l2), none, some (.int l4), some (.int l5)], [], M)
noncomputable def zg_M_counts_256 (X : zv_X) (l0 : Nat) (l1 l2 l4 : Int32) (M : zv_M) : Option zv_R := zR X (128, 256, [some (.ref l0), some (.int l1), some (.int l2), none, some (.int l4), none], [], M)
noncomputable def zg_M_laysAll_0 (X : zv_X) (l0 : Nat) (M : zv_M) : Option zv_R := zR X (129, 0, [some (.ref l0), none, none, none], [], M)
noncomputable def zg_M_laysAll_6 (X : zv_X) (l0 : Nat) (l1 l2 l3 : Int32) (M : zv_M) : Option zv_R := zR X (129, 6, [some (.ref l0), some (.int l1), some (.int l2), some (.int l3)], [], M)
noncomputable def zg_M_laysAll_17 (X : zv_X) (l0 : Nat) (l1 l2 l3 : Int32) (M : zv_M) : Option zv_R := zR X (129, 17, [some (.ref l0), some (.int l1), some (.int l2), some (.int l3)], [], M)
noncomputable def zg_M_laysAll_61 (X : zv_X) (l0 : Nat) (l1 l2 l3 : Int32) (M : zv_M) : Option zv_R := zR X (129, 61, [some (.ref l0), some (.int l1), some (.int l2), some (.int l3)], [], M)
noncomputable def zg_M_laysAll_102 (X : zv_X) (l0 : Nat) (l1 l2 l3 : Int32) (M : zv_M) : Option zv_R := zR X (129, 102, [some (.ref l0), some (.int l1), some (.int l2), some (.int l3)], [], M)
noncomputable def zg_M_laysAll_129 (X : zv_X) (l0 : Nat) (l1 l2 l3 : Int32) (M : zv_M) : Option zv_R := zR X (129, 129, [some (.ref l0), some (.int l1), some (.int l2), some (.int l3)], [], M)
noncomputable def zg_M_laysAll_163 (X : zv_X) (l0 : Nat) (l1 l2 l3 : Int32) (M : zv_M) : Option zv_R := zR X (129, 163, [some (.ref l0), some (.int l1), some (.int l2), some (.int l3)], [], M)
noncomputable def zg_M_laysAll_169 (X : zv_X) (l1 : Int32) (M : zv_M) : Option zv_R := zR X (129, 169, [none, some (.int l1), none, none], [], M)
noncomputable def zg_M_builds_0 (X : zv_X) (l0 : Nat) (M : zv_M) : Option zv_R := zR X (130, 0, [some (.ref l0), none, none], [], M)
noncomputable def zg_M_builds_7 (X : zv_X) (l0 : Nat) (l1 l2 : Int32) (M : zv_M) : Option zv_R := zR X (130, 7, [some (.ref l0), some (.int l1), some (.int l2)], [], M)
noncomputable def zg_M_builds_49 (X : zv_X) (l0 : Nat) (l1 : Int32) (M : zv_M) : Option zv_R := zR X (130, 49, [some (.ref l0), some (.int l1), none], [], M)
noncomputable def zg_M_forgets_0 (X : zv_X) (l0 : Nat) (M : zv_M) : Option zv_R := zR X (131, 0, [some (.ref l0)], [], M)
noncomputable def zg_M_build_0 (X : zv_X) (l0 : Nat) (M : zv_M) : Option zv_R := zR X (132, 0, [some (.ref l0)], [], M)
noncomputable def zg_M_set_0 (X : zv_X) (l0 : Nat) (l1 l2 : Int32) (M : zv_M) : Option zv_R := zR X (133, 0, [some (.ref l0), some (.int l1), some (.int l2), none, none], [], M)
noncomputable def zg_M_set_12 (X : zv_X) (l0 : Nat) (l1 l2 : Int32) (M : zv_M) : Option zv_R := zR X (133, 12, [some (.ref l0), some (.int l1), some (.int l2), none, none], [], M)
noncomputable def zg_M_set_23 (X : zv_X) (l0 : Nat) (l1 l2 : Int32) (M : zv_M) : Option zv_R := zR X (133, 23, [some (.ref l0), some (.int l1), some (.int l2), none, none], [], M)
noncomputable def zg_M_set_27 (X : zv_X) (l0 : Nat) (l1 l2 : Int32) (M : zv_M) : Option zv_R := zR X (133, 27, [some (.ref l0), some (.int l1), some (.int l2), none, none], [], M)
noncomputable def zg_M_set_36 (X : zv_X) (l0 : Nat) (l1 l2 : Int32) (M : zv_M) : Option zv_R := zR X (133, 36, [some (.ref l0), some (.int l1), some (.int l2), none, none], [], M)
noncomputable def zg_M_set_46 (X : zv_X) (l0 : Nat) (l1 l2 : Int32) (M : zv_M) : Option zv_R := zR X (133, 46, [some (.ref l0), some (.int l1), some (.int l2), none, none], [], M)
noncomputable def zg_M_set_47 (X : zv_X) (l0 : Nat) (l1 l2 s0 : Int32) (M : zv_M) : Option zv_R := zR X (133, 47, [some (.ref l0), some (.int l1), some (.int l2), none, none], [.int s0], M)
noncomputable def zg_M_set_58 (X : zv_X) (l0 : Nat) (l1 l2 l3 : Int32) (M : zv_M) : Option zv_R := zR X (133, 58, [some (.ref l0), some (.int l1), some (.int l2), some (.int l3), none], [], M)
noncomputable def zg_M_set_68 (X : zv_X) (l0 : Nat) (l1 l2 l3 : Int32) (M : zv_M) : Option zv_R := zR X (133, 68, [some (.ref l0), some (.int l1), some (.int l2), some (.int l3), none], [], M)
noncomputable def zg_M_set_78 (X : zv_X) (l0 : Nat) (l1 l2 l3 : Int32) (M : zv_M) : Option zv_R := zR X (133, 78, [some (.ref l0), some (.int l1), some (.int l2), some (.int l3), none], [], M)
noncomputable def zg_M_set_89 (X : zv_X) (l0 : Nat) (l1 l2 l3 : Int32) (M : zv_M) : Option zv_R := zR X (133, 89, [some (.ref l0), some (.int l1), some (.int l2), some (.int l3), none], [], M)
noncomputable def zg_M_set_99 (X : zv_X) (l0 : Nat) (l1 l2 l3 : Int32) (M : zv_M) : Option zv_R := zR X (133, 99, [some (.ref l0), some (.int l1), some (.int l2), some (.int l3), none], [], M)
noncomputable def zg_M_set_101 (X : zv_X) (l0 : Nat) (l1 l2 l3 s0 : Int32) (M : zv_M) : Option zv_R := zR X (133, 101, [some (.ref l0), some (.int l1), some (.int l2), some (.int l3), none], [.int s0], M)
noncomputable def zg_M_set_115 (X : zv_X) (l0 : Nat) (l1 l2 : Int32) (M : zv_M) : Option zv_R := zR X (133, 115, [some (.ref l0), some (.int l1), some (.int l2), none, none], [], M)
noncomputable def zg_M_set_132 (X : zv_X) (M : zv_M) : Option zv_R := zR X (133, 132, [none, none, none, none, none], [], M)
noncomputable def zg_M_pushes_0 (X : zv_X) (l0 : Nat) (l1 l2 l3 l4 : Int32) (M : zv_M) : Option zv_R := zR X (134, 0, [some (.ref l0), some (.int l1), some (.int l2), some (.int l3), some (.int l4), none], [], M)
noncomputable def zg_M_pushes_14 (X : zv_X) (l0 : Nat) (l1 l2 l3 l4 l5 : Int32) (M : zv_M) : Option zv_R := zR X (134, 14, [some (.ref l0), some (.int l1), some (.int l2), some (.int l3), some (.int l4), some (.int l5)], [], M)
noncomputable def zg_M_pushes_45 (X : zv_X) (l0 : Nat) (l1 l2 l3 l4 : Int32) (M : zv_M) : Option zv_R := zR X (134, 45, [some (.ref l0), some (.int l1), some (.int l2), some (.int l3), some (.int l4), none], [], M)
noncomputable def zg_M_pushes_55 (X : zv_X) (l0 : Nat) (l1 l2 l3 l4 : Int32) (M : zv_M) : Option zv_R := zR X (134, 55, [some (.ref l0), some (.int l1), some (.int l2), some (.int l3), some (.int l4), none], [], M)
noncomputable def zg_M_acts_0 (X : zv_X) (l0 : Nat) (l1 l2 : Int32) (M : zv_M) : Option zv_R := zR X (135, 0, [some (.ref l0), some (.int l1), some (.int l2)], [], M)
noncomputable def zg_M_insert_0 (X : zv_X) (l0 : Nat) (l1 : Int32) (M : zv_M) : Option zv_R := zR X (136, 0, [some (.ref l0), some (.int l1), none], [], M)
noncomputable def zg_M_insert_9 (X : zv_X) (l0 : Nat) (l1 : Int32) (M : zv_M) : Option zv_R := zR X (136, 9, [some (.ref l0), some (.int l1), none], [], M)
noncomputable def zg_M_insert_35 (X : zv_X) (M : zv_M) : Option zv_R := zR X (136, 35, [none, none, none], [], M)
noncomputable def zg_M_insert_37 (X : zv_X) (l0 : Nat) (l1 l2 : Int32) (M : zv_M) : Option zv_R := zR X (136, 37, [some (.ref l0), some (.int l1), some (.int l2)], [], M)
noncomputable def zg_M_insert_109 (X : zv_X) (l2 : Int32) (M : zv_M) : Option zv_R := zR X (136, 109, [none, none, some (.int l2)], [], M)
noncomputable def zg_M_remove_0 (X : zv_X) (l0 : Nat) (l1 : Int32) (M : zv_M) : Option zv_R := zR X (137, 0, [some (.ref l0), some (.int l1), none], [], M)
noncomputable def zg_M_remove_12 (X : zv_X) (l0 : Nat) (l1 l2 : Int32) (M : zv_M) : Option zv_R := zR X (137, 12, [some (.ref l0), some (.int l1), some (.int l2)], [], M)
noncomputable def zg_M_undo_0 (X : zv_X) (l0 : Nat) (l1 : Int32) (M : zv_M) : Option zv_R := zR X (138, 0, [some (.ref l0), some (.int l1), none, none, none, none], [], M)
noncomputable def zg_M_undo_9 (X : zv_X) (l0 : Nat) (l1 : Int32) (M : zv_M) : Option zv_R := zR X (138, 9, [some (.ref l0), some (.int l1), none, none, none, none], [], M)
noncomputable def zg_M_undo_11 (X : zv_X) (l0 : Nat) (l1 s0 : Int32) (M : zv_M) : Option zv_R := zR X (138, 11, [some (.ref l0), some (.int l1), none, none, none, none], [.int s0], M)
noncomputable def zg_M_undo_22 (X : zv_X) (l0 : Nat) (l1 l2 : Int32) (M : zv_M) : Option zv_R := zR X (138, 22, [some (.ref l0), some (.int l1), some (.int l2), none, none, none], [], M)
noncomputable def zg_M_undo_25 (X : zv_X) (l0 : Nat) (l1 l2 s0 : Int32) (M : zv_M) : Option zv_R := zR X (138, 25, [some (.ref l0), some (.int l1), some (.int l2), none, none, none], [.int s0], M)
noncomputable def zg_M_undo_38 (X : zv_X) (l0 : Nat) (l1 l2 l3 : Int32) (M : zv_M) : Option zv_R := zR X (138, 38, [some (.ref l0), some (.int l1), some (.int l2), some (.int l3), none, none], [], M)
noncomputable def zg_M_undo_94 (X : zv_X) (l0 : Nat) (l1 l4 l5 : Int32) (s0 : Nat) (M : zv_M) : Option zv_R := zR X (138, 94, [some (.ref l0), some (.int l1), none, none, some (.int l4), some (.int l5)], [.ref s0], M)
noncomputable def zg_M_undo_96 (X : zv_X) (l0 : Nat) (l1 l4 l5 s0 : Int32) (s1 : Nat) (M : zv_M) : Option zv_R := zR X (138, 96, [some (.ref l0), some (.int l1), none, none, some (.int l4), some (.int l5)], [.int s0, .ref s1], M)
noncomputable def zg_M_undo_106 (X : zv_X) (l0 : Nat) (l1 l4 l5 s0 : Int32) (s1 : Nat) (M : zv_M) : Option zv_R := zR X (138, 106, [some (.ref l0), some (.int l1), none, none, some (.int l4), some (.int l5)], [.int s0, .ref s1], M)
noncomputable def zg_M_undo_109 (X : zv_X) (l0 : Nat) (l1 l4 l5 s0 s1 : Int32) (s2 : Nat) (M : zv_M) : Option zv_R := zR X (138, 109, [some (.ref l0), some (.int l1), none, none, some (.int l4), some (.int l5)], [.int s0, .int s1, .ref s2], M)
noncomputable def zg_M_undo_135 (X : zv_X) (l4 l5 s0 s1 : Int32) (s2 : Nat) (M : zv_M) : Option zv_R := zR X (138, 135, [none, none, none, none, some (.int l4), some (.int l5)], [.int s0, .int s1, .ref s2], M)
noncomputable def zg_M_undo_137 (X : zv_X) (l4 s0 s1 s2 : Int32) (s3 : Nat) (M : zv_M) : Option zv_R := zR X (138, 137, [none, none, none, none, some (.int l4), none], [.int s0, .int s1, .int s2, .ref s3], M)
noncomputable def zg_M_key_0 (X : zv_X) (l0 : Nat) (l1 : Int32) (M : zv_M) : Option zv_R := zR X (139, 0, [some (.ref l0), some (.int l1)], [], M)
noncomputable def zg_M_key_23 (X : zv_X) (M : zv_M) : Option zv_R := zR X (139, 23, [none, none], [], M)
noncomputable def zg_M_key_25 (X : zv_X) (s0 : Int32) (M : zv_M) : Option zv_R := zR X (139, 25, [none, none], [.int s0], M)
noncomputable def zg_M_rank_0 (X : zv_X) (l0 : Nat) (l1 : Int32) (M : zv_M) : Option zv_R := zR X (140, 0, [some (.ref l0), some (.int l1), none, none, none], [], M)
noncomputable def zg_M_rank_10 (X : zv_X) (l0 : Nat) (l1 l2 l3 l4 : Int32) (M : zv_M) : Option zv_R := zR X (140, 10, [some (.ref l0), some (.int l1), some (.int l2), some (.int l3), some (.int l4)], [], M)
noncomputable def zg_M_rank_32 (X : zv_X) (l0 : Nat) (l1 l2 l4 s0 : Int32) (M : zv_M) : Option zv_R := zR X (140, 32, [some (.ref l0), some (.int l1), some (.int l2), none, some (.int l4)], [.int s0], M)
noncomputable def zg_M_rank_33 (X : zv_X) (l0 : Nat) (l1 l2 l4 s0 s1 : Int32) (M : zv_M) : Option zv_R := zR X (140, 33, [some (.ref l0), some (.int l1), some (.int l2), none, some (.int l4)], [.int s0, .int s1], M)
noncomputable def zg_M_rank_41 (X : zv_X) (l3 : Int32) (M : zv_M) : Option zv_R := zR X (140, 41, [none, none, none, some (.int l3), none], [], M)
noncomputable def zg_M_range_0 (X : zv_X) (l0 : Nat) (l1 l2 l3 : Int32) (M : zv_M) : Option zv_R := zR X (141, 0, [some (.ref l0), some (.int l1), some (.int l2), some (.int l3), none, none, none, none], [], M)
noncomputable def zg_M_range_13 (X : zv_X) (l0 : Nat) (l1 l2 l3 : Int32) (M : zv_M) : Option zv_R := zR X (141, 13, [some (.ref l0), some (.int l1), some (.int l2), some (.int l3), none, none, none, none], [], M)
noncomputable def zg_M_range_25 (X : zv_X) (l0 : Nat) (l1 l2 l3 l4 : Int32) (l5 : Int64) (l7 : Int32) (M : zv_M) : Option zv_R := zR X (141, 25, [some (.ref l0), some (.int l1), some (.int l2), some (.int l3), some (.int l4), some (.long l5), none, some (.int l7)], [], M)
noncomputable def zg_M_range_57 (X : zv_X) (l0 : Nat) (l1 l2 l3 l4 l7 : Int32) (s0 : Int64) (M : zv_M) : Option zv_R := zR X (141, 57, [some (.ref l0), some (.int l1), some (.int l2), some (.int l3), some (.int l4), none, none, some (.int l7)], [.long s0], M)
noncomputable def zg_M_range_73 (X : zv_X) (l0 : Nat) (l1 l2 l3 l4 l7 : Int32) (s0 : Int64) (M : zv_M) : Option zv_R := zR X (141, 73, [some (.ref l0), some (.int l1), some (.int l2), some (.int l3), some (.int l4), none, none, some (.int l7)], [.long s0], M)
noncomputable def zg_M_range_90 (X : zv_X) (l0 : Nat) (l1 l2 l3 l4 l7 : Int32) (s0 s1 : Int64) (M : zv_M) : Option zv_R := zR X (141, 90, [some (.ref l0), some (.int l1), some (.int l2), some (.int l3), some (.int l4), none, none, some (.int l7)], [.long s0, .long s1], M)
noncomputable def zg_M_range_93 (X : zv_X) (l0 : Nat) (l1 l2 l3 l4 : Int32) (l5 : Int64) (l7 : Int32) (M : zv_M) : Option zv_R := zR X (141, 93, [some (.ref l0), some (.int l1), some (.int l2), some (.int l3), some (.int l4), some (.long l5), none, some (.int l7)], [], M)
noncomputable def zg_M_range_99 (X : zv_X) (l5 : Int64) (M : zv_M) : Option zv_R := zR X (141, 99, [none, none, none, none, none, some (.long l5), none, none], [], M)
noncomputable def zg_M_feed_0 (X : zv_X) (l0 : Nat) (l1 l2 l3 l4 l5 : Int32) (M : zv_M) : Option zv_R := zR X (142, 0, [some (.ref l0), some (.int l1), some (.int l2), some (.int l3), some (.int l4), some (.int l5), none, none], [], M)
noncomputable def zg_M_feed_15 (X : zv_X) (l0 : Nat) (l1 l2 l3 l4 l5 : Int32) (M : zv_M) : Option zv_R := zR X (142, 15, [some (.ref l0), some (.int l1), some (.int l2), some (.int l3), some (.int l4), some (.int l5), none, none], [], M)
noncomputable def zg_M_feed_18 (X : zv_X) (l0 : Nat) (l1 l2 l3 l4 l5 l6 : Int32) (M : zv_M) : Option zv_R := zR X (142, 18, [some (.ref l0), some (.int l1), some (.int l2), some (.int l3), some (.int l4), some (.int l5), some (.int l6), none], [], M)
noncomputable def zg_M_feed_35 (X : zv_X) (l0 : Nat) (l1 l2 l3 l4 l5 l6 : Int32) (M : zv_M) : Option zv_R := zR X (142, 35, [some (.ref l0), some (.int l1), some (.int l2), some (.int l3), some (.int l4), some (.int l5), some (.int l6), none], [], M)
noncomputable def zg_M_feed_46 (X : zv_X) (l0 : Nat) (l1 l2 l3 l4 l5 l6 : Int32) (M : zv_M) : Option zv_R := zR X (142, 46, [some (.ref l0), some (.int l1), some (.int l2), some (.int l3), some (.int l4), some (.int l5), some (.int l6), none], [], M)
noncomputable def zg_M_feed_57 (X : zv_X) (l0 : Nat) (l1 l2 l3 l4 l5 l6 : Int32) (M : zv_M) : Option zv_R := zR X (142, 57, [some (.ref l0), some (.int l1), some (.int l2), some (.int l3), some (.int l4), some (.int l5), some (.int l6), none], [], M)
noncomputable def zg_M_feed_69 (X : zv_X) (l0 : Nat) (l1 l2 l3 l4 l5 l6 : Int32) (M : zv_M) : Option zv_R := zR X (142, 69, [some (.ref l0), some (.int l1), some (.int l2), some (.int l3), some (.int l4), some (.int l5), some (.int l6), none], [], M)
noncomputable def zg_M_feed_71 (X : zv_X) (l0 : Nat) (l1 l2 l3 l4 l5 l6 s0 : Int32) (M : zv_M) : Option zv_R := zR X (142, 71, [some (.ref l0), some (.int l1), some (.int l2), some (.int l3), some (.int l4), some (.int l5), some (.int l6), none], [.int s0], M)
noncomputable def zg_M_feed_115 (X : zv_X) (l0 : Nat) (M : zv_M) : Option zv_R := zR X (142, 115, [some (.ref l0), none, none, none, none, none, none, none], [], M)
noncomputable def zg_M_end_0 (X : zv_X) (l0 : Nat) (l1 : Int32) (M : zv_M) : Option zv_R := zR X (143, 0, [some (.ref l0), some (.int l1)], [], M)
noncomputable def zg_M_end_14 (X : zv_X) (l0 : Nat) (l1 : Int32) (M : zv_M) : Option zv_R := zR X (143, 14, [some (.ref l0), some (.int l1)], [], M)
noncomputable def zg_M_see_0 (X : zv_X) (l0 : Nat) (l1 : Int32) (M : zv_M) : Option zv_R := zR X (144, 0, [some (.ref l0), some (.int l1)], [], M)
noncomputable def zg_M_see_17 (X : zv_X) (M : zv_M) : Option zv_R := zR X (144, 17, [none, none], [], M)
noncomputable def zg_M_see_18 (X : zv_X) (s0 : Int32) (M : zv_M) : Option zv_R := zR X (144, 18, [none, none], [.int s0], M)
noncomputable def zg_M_isLetter_0 (X : zv_X) (l0 : Int32) (M : zv_M) : Option zv_R := zR X (145, 0, [some (.int l0)], [], M)
noncomputable def zg_M_isLetter_22 (X : zv_X) (M : zv_M) : Option zv_R := zR X (145, 22, [none], [], M)
noncomputable def zg_M_isLetter_26 (X : zv_X) (M : zv_M) : Option zv_R := zR X (145, 26, [none], [], M)
noncomputable def zg_M_isLetter_27 (X : zv_X) (s0 : Int32) (M : zv_M) : Option zv_R := zR X (145, 27, [none], [.int s0], M)
noncomputable def zg_M_isDigit_0 (X : zv_X) (l0 : Int32) (M : zv_M) : Option zv_R := zR X (146, 0, [some (.int l0)], [], M)
noncomputable def zg_M_is_0 (X : zv_X) (l0 l1 : Nat) (M : zv_M) : Option zv_R := zR X (147, 0, [some (.ref l0), some (.retAddr l1), none, none], [], M)
noncomputable def zg_M_is_20 (X : zv_X) (l0 l1 : Nat) (M : zv_M) : Option zv_R := zR X (147, 20, [some (.ref l0), some (.retAddr l1), none, none], [], M)
noncomputable def zg_M_is_21 (X : zv_X) (l0 l1 : Nat) (s0 : Int32) (M : zv_M) : Option zv_R := zR X (147, 21, [some (.ref l0), some (.retAddr l1), none, none], [.int s0], M)
noncomputable def zg_M_is_24 (X : zv_X) (l0 l1 : Nat) (l2 l3 : Int32) (M : zv_M) : Option zv_R := zR X (147, 24, [some (.ref l0), some (.retAddr l1), some (.int l2), some (.int l3)], [], M)
noncomputable def zg_M_is_59 (X : zv_X) (l0 l1 : Nat) (l3 : Int32) (M : zv_M) : Option zv_R := zR X (147, 59, [some (.ref l0), some (.retAddr l1), none, some (.int l3)], [], M)
noncomputable def zg_M_is_60 (X : zv_X) (l0 l1 : Nat) (l3 s0 : Int32) (M : zv_M) : Option zv_R := zR X (147, 60, [some (.ref l0), some (.retAddr l1), none, some (.int l3)], [.int s0], M)
noncomputable def zg_M_is_67 (X : zv_X) (l2 : Int32) (M : zv_M) : Option zv_R := zR X (147, 67, [none, none, some (.int l2), none], [], M)
noncomputable def zg_M_word_0 (X : zv_X) (l0 : Nat) (M : zv_M) : Option zv_R := zR X (148, 0, [some (.ref l0)], [], M)
noncomputable def zg_M_word_11 (X : zv_X) (l0 : Nat) (M : zv_M) : Option zv_R := zR X (148, 11, [some (.ref l0)], [], M)
noncomputable def zg_M_word_22 (X : zv_X) (l0 : Nat) (M : zv_M) : Option zv_R := zR X (148, 22, [some (.ref l0)], [], M)
noncomputable def zg_M_word_34 (X : zv_X) (l0 : Nat) (M : zv_M) : Option zv_R := zR X (148, 34, [some (.ref l0)], [], M)
noncomputable def zg_M_word_46 (X : zv_X) (l0 : Nat) (M : zv_M) : Option zv_R := zR X (148, 46, [some (.ref l0)], [], M)
noncomputable def zg_M_word_58 (X : zv_X) (l0 : Nat) (M : zv_M) : Option zv_R := zR X (148, 58, [some (.ref l0)], [], M)
noncomputable def zg_M_word_72 (X : zv_X) (M : zv_M) : Option zv_R := zR X (148, 72, [none], [], M)
noncomputable def zg_M_word_73 (X : zv_X) (s0 : Int32) (M : zv_M) : Option zv_R := zR X (148, 73, [none], [.int s0], M)
noncomputable def zg_M_next0_0 (X : zv_X) (l0 : Nat) (M : zv_M) : Option zv_R := zR X (149, 0, [some (.ref l0), none, none, none], [], M)
noncomputable def zg_M_next0_26 (X : zv_X) (l0 : Nat) (M : zv_M) : Option zv_R := zR X (149, 26, [some (.ref l0), none, none, none], [], M)
noncomputable def zg_M_next0_39 (X : zv_X) (l0 : Nat) (M : zv_M) : Option zv_R := zR X (149, 39, [some (.ref l0), none, none, none], [], M)
noncomputable def zg_M_next0_69 (X : zv_X) (l0 : Nat) (l1 : Int32) (M : zv_M) : Option zv_R := zR X (149, 69, [some (.ref l0), some (.int l1), none, none], [], M)
noncomputable def zg_M_next0_76 (X : zv_X) (l0 : Nat) (M : zv_M) : Option zv_R := zR X (149, 76, [some (.ref l0), none, none, none], [], M)
noncomputable def zg_M_next0_103 (X : zv_X) (l0 : Nat) (M : zv_M) : Option zv_R := zR X (149, 103, [some (.ref l0), none, none, none], [], M)
noncomputable def zg_M_next0_114 (X : zv_X) (l0 : Nat) (l1 : Int32) (M : zv_M) : Option zv_R := zR X (149, 114, [some (.ref l0), some (.int l1), none, none], [], M)
noncomputable def zg_M_next0_143 (X : zv_X) (l0 : Nat) (l1 : Int32) (M : zv_M) : Option zv_R := zR X (149, 143, [some (.ref l0), some (.int l1), none, none], [], M)
noncomputable def zg_M_next0_153 (X : zv_X) (l0 : Nat) (M : zv_M) : Option zv_R := zR X (149, 153, [some (.ref l0), none, none, none], [], M)
noncomputable def zg_M_next0_154 (X : zv_X) (l0 : Nat) (s0 : Int32) (M : zv_M) : Option zv_R := zR X (149, 154, [some (.ref l0), none, none, none], [.int s0], M)
noncomputable def zg_M_next0_169 (X : zv_X) (l0 : Nat) (l2 : Int32) (M : zv_M) : Option zv_R := zR X (149, 169, [some (.ref l0), none, some (.int l2), none], [], M)
noncomputable def zg_M_next0_179 (X : zv_X) (l0 : Nat) (l2 l3 : Int32) (M : zv_M) : Option zv_R := zR X (149, 179, [some (.ref l0), none, some (.int l2), some (.int l3)], [], M)
noncomputable def zg_M_next0_227 (X : zv_X) (l0 : Nat) (l2 l3 : Int32) (M : zv_M) : Option zv_R := zR X (149, 227, [some (.ref l0), none, some (.int l2), some (.int l3)], [], M)
noncomputable def zg_M_next0_240 (X : zv_X) (l0 : Nat) (l2 l3 : Int32) (M : zv_M) : Option zv_R := zR X (149, 240, [some (.ref l0), none, some (.int l2), some (.int l3)], [], M)
noncomputable def zg_M_next0_253 (X : zv_X) (l0 : Nat) (l3 : Int32) (s0 : Nat) (M : zv_M) : Option zv_R := zR X (149, 253, [some (.ref l0), none, none, some (.int l3)], [.ref s0], M)
noncomputable def zg_M_next0_257 (X : zv_X) (l0 : Nat) (l3 s0 : Int32) (s1 : Nat) (M : zv_M) : Option zv_R := zR X (149, 257, [some (.ref l0), none, none, some (.int l3)], [.int s0, .ref s1], M)
noncomputable def zg_M_next0_276 (X : zv_X) (s0 : Nat) (M : zv_M) : Option zv_R := zR X (149, 276, [none, none, none, none], [.ref s0], M)
noncomputable def zg_M_next0_277 (X : zv_X) (s0 : Int32) (s1 : Nat) (M : zv_M) : Option zv_R := zR X (149, 277, [none, none, none, none], [.int s0, .ref s1], M)
noncomputable def zg_M_next0_283 (X : zv_X) (l0 : Nat) (l1 : Int32) (M : zv_M) : Option zv_R := zR X (149, 283, [some (.ref l0), some (.int l1), none, none], [], M)
noncomputable def zg_M_next0_304 (X : zv_X) (s0 : Nat) (M : zv_M) : Option zv_R := zR X (149, 304, [none, none, none, none], [.ref s0], M)
noncomputable def zg_M_next0_305 (X : zv_X) (s0 : Int32) (s1 : Nat) (M : zv_M) : Option zv_R := zR X (149, 305, [none, none, none, none], [.int s0, .ref s1], M)
noncomputable def zg_M_next0_308 (X : zv_X) (M : zv_M) : Option zv_R := zR X (149, 308, [none, none, none, none], [], M)
noncomputable def zg_M_bad_0 (X : zv_X) (l0 : Nat) (l1 l2 : Int32) (M : zv_M) : Option zv_R := zR X (150, 0, [some (.ref l0), some (.int l1), some (.int l2)], [], M)
noncomputable def zg_M_number_0 (X : zv_X) (l0 : Nat) (l1 l2 : Int32) (M : zv_M) : Option zv_R := zR X (151, 0, [some (.ref l0), some (.int l1), some (.int l2)], [], M)
noncomputable def zg_M_number_18 (X : zv_X) (l0 : Nat) (l1 l2 : Int32) (M : zv_M) : Option zv_R := zR X (151, 18, [some (.ref l0), some (.int l1), some (.int l2)], [], M)
noncomputable def zg_M_number_40 (X : zv_X) (l0 : Nat) (M : zv_M) : Option zv_R := zR X (151, 40, [some (.ref l0), none, none], [], M)
noncomputable def zg_M_comes_0 (X : zv_X) (l0 : Nat) (l1 l2 : Int32) (M : zv_M) : Option zv_R := zR X (152, 0, [some (.ref l0), some (.int l1), some (.int l2), none], [], M)
noncomputable def zg_M_comes_28 (X : zv_X) (M : zv_M) : Option zv_R := zR X (152, 28, [none, none, none, none], [], M)
noncomputable def zg_M_comes_30 (X : zv_X) (l0 : Nat) (l1 l2 l3 : Int32) (M : zv_M) : Option zv_R := zR X (152, 30, [some (.ref l0), some (.int l1), some (.int l2), some (.int l3)], [], M)
noncomputable def zg_M_aKey_0 (X : zv_X) (l0 : Nat) (l1 : Int32) (M : zv_M) : Option zv_R := zR X (153, 0, [some (.ref l0), some (.int l1), none, none], [], M)
noncomputable def zg_M_aKey_13 (X : zv_X) (l0 : Nat) (l1 : Int32) (M : zv_M) : Option zv_R := zR X (153, 13, [some (.ref l0), some (.int l1), none, none], [], M)
noncomputable def zg_M_aKey_40 (X : zv_X) (l0 : Nat) (l1 l2 : Int32) (M : zv_M) : Option zv_R := zR X (153, 40, [some (.ref l0), some (.int l1), some (.int l2), none], [], M)
noncomputable def zg_M_aKey_45 (X : zv_X) (l0 : Nat) (l1 l2 l3 : Int32) (M : zv_M) : Option zv_R := zR X (153, 45, [some (.ref l0), some (.int l1), some (.int l2), some (.int l3)], [], M)
noncomputable def zg_M_aKey_63 (X : zv_X) (M : zv_M) : Option zv_R := zR X (153, 63, [none, none, none, none], [], M)
noncomputable def zg_M_aKey_67 (X : zv_X) (M : zv_M) : Option zv_R := zR X (153, 67, [none, none, none, none], [], M)
noncomputable def zg_M_aKey_68 (X : zv_X) (s0 : Int32) (M : zv_M) : Option zv_R := zR X (153, 68, [none, none, none, none], [.int s0], M)
noncomputable def zg_M_aRun_0 (X : zv_X) (l0 : Nat) (l1 : Int32) (M : zv_M) : Option zv_R := zR X (154, 0, [some (.ref l0), some (.int l1), none, none, none, none], [], M)
noncomputable def zg_M_aRun_13 (X : zv_X) (l0 : Nat) (l1 : Int32) (M : zv_M) : Option zv_R := zR X (154, 13, [some (.ref l0), some (.int l1), none, none, none, none], [], M)
noncomputable def zg_M_aRun_30 (X : zv_X) (l0 : Nat) (l1 l2 : Int32) (M : zv_M) : Option zv_R := zR X (154, 30, [some (.ref l0), some (.int l1), some (.int l2), none, none, none], [], M)
noncomputable def zg_M_aRun_53 (X : zv_X) (l0 : Nat) (l1 l2 l3 l4 : Int32) (M : zv_M) : Option zv_R := zR X (154, 53, [some (.ref l0), some (.int l1), some (.int l2), some (.int l3), some (.int l4), none], [], M)
noncomputable def zg_M_aRun_81 (X : zv_X) (l0 : Nat) (l1 l2 l3 : Int32) (M : zv_M) : Option zv_R := zR X (154, 81, [some (.ref l0), some (.int l1), some (.int l2), some (.int l3), none, none], [], M)
noncomputable def zg_M_aRun_84 (X : zv_X) (l0 : Nat) (l1 l2 l3 l5 : Int32) (M : zv_M) : Option zv_R := zR X (154, 84, [some (.ref l0), some (.int l1), some (.int l2), some (.int l3), none, some (.int l5)], [], M)
noncomputable def zg_M_aRun_114 (X : zv_X) (l0 : Nat) (l1 l2 l3 l5 : Int32) (M : zv_M) : Option zv_R := zR X (154, 114, [some (.ref l0), some (.int l1), some (.int l2), some (.int l3), none, some (.int l5)], [], M)
noncomputable def zg_M_aRun_120 (X : zv_X) (M : zv_M) : Option zv_R := zR X (154, 120, [none, none, none, none, none, none], [], M)
noncomputable def zg_M_statement_0 (X : zv_X) (l0 : Nat) (l1 : Int32) (M : zv_M) : Option zv_R := zR X (155, 0, [some (.ref l0), some (.int l1), none, none, none], [], M)
noncomputable def zg_M_statement_30 (X : zv_X) (l0 : Nat) (l1 l2 l3 : Int32) (M : zv_M) : Option zv_R := zR X (155, 30, [some (.ref l0), some (.int l1), some (.int l2), some (.int l3), none], [], M)
noncomputable def zg_M_statement_46 (X : zv_X) (l0 : Nat) (l2 l3 : Int32) (M : zv_M) : Option zv_R := zR X (155, 46, [some (.ref l0), none, some (.int l2), some (.int l3), none], [], M)
noncomputable def zg_M_statement_60 (X : zv_X) (l0 : Nat) (l2 l3 : Int32) (M : zv_M) : Option zv_R := zR X (155, 60, [some (.ref l0), none, some (.int l2), some (.int l3), none], [], M)
noncomputable def zg_M_statement_73 (X : zv_X) (l0 : Nat) (l2 : Int32) (M : zv_M) : Option zv_R := zR X (155, 73, [some (.ref l0), none, some (.int l2), none, none], [], M)
noncomputable def zg_M_statement_78 (X : zv_X) (l0 : Nat) (s0 : Int32) (M : zv_M) : Option zv_R := zR X (155, 78, [some (.ref l0), none, none, none, none], [.int s0], M)
noncomputable def zg_M_statement_83 (X : zv_X) (l0 : Nat) (l3 : Int32) (M : zv_M) : Option zv_R := zR X (155, 83, [some (.ref l0), none, none, some (.int l3), none], [], M)
noncomputable def zg_M_statement_116 (X : zv_X) (l0 : Nat) (l3 : Int32) (M : zv_M) : Option zv_R := zR X (155, 116, [some (.ref l0), none, none, some (.int l3), none], [], M)
noncomputable def zg_M_statement_129 (X : zv_X) (l0 : Nat) (l3 s0 : Int32) (s1 : Nat) (M : zv_M) : Option zv_R := zR X (155, 129, [some (.ref l0), none, none, some (.int l3), none], [.int s0, .ref s1], M)
noncomputable def zg_M_statement_131 (X : zv_X) (l0 : Nat) (l3 s0 s1 : Int32) (s2 : Nat) (M : zv_M) : Option zv_R := zR X (155, 131, [some (.ref l0), none, none, some (.int l3), none], [.int s0, .int s1, .ref s2], M)
noncomputable def zg_M_statement_156 (X : zv_X) (l0 : Nat) (l4 : Int32) (M : zv_M) : Option zv_R := zR X (155, 156, [some (.ref l0), none, none, none, some (.int l4)], [], M)
noncomputable def zg_M_statement_163 (X : zv_X) (l0 : Nat) (M : zv_M) : Option zv_R := zR X (155, 163, [some (.ref l0), none, none, none, none], [], M)
noncomputable def zg_M_statement_181 (X : zv_X) (l0 : Nat) (M : zv_M) : Option zv_R := zR X (155, 181, [some (.ref l0), none, none, none, none], [], M)
noncomputable def zg_M_text_0 (X : zv_X) (l0 : Nat) (M : zv_M) : Option zv_R := zR X (156, 0, [some (.ref l0), none, none, none], [], M)
noncomputable def zg_M_text_12 (X : zv_X) (l0 : Nat) (l1 : Int32) (M : zv_M) : Option zv_R := zR X (156, 12, [some (.ref l0), some (.int l1), none, none], [], M)
noncomputable def zg_M_text_37 (X : zv_X) (l0 : Nat) (M : zv_M) : Option zv_R := zR X (156, 37, [some (.ref l0), none, none, none], [], M)
noncomputable def zg_M_text_45 (X : zv_X) (l0 : Nat) (l1 l2 : Int32) (M : zv_M) : Option zv_R := zR X (156, 45, [some (.ref l0), some (.int l1), some (.int l2), none], [], M)
noncomputable def zg_M_text_68 (X : zv_X) (l0 : Nat) (l1 : Int32) (M : zv_M) : Option zv_R := zR X (156, 68, [some (.ref l0), some (.int l1), none, none], [], M)
noncomputable def zg_M_text_90 (X : zv_X) (l0 : Nat) (l1 : Int32) (s0 : Nat) (M : zv_M) : Option zv_R := zR X (156, 90, [some (.ref l0), some (.int l1), none, none], [.ref s0], M)
noncomputable def zg_M_text_94 (X : zv_X) (l0 : Nat) (l1 s0 : Int32) (s1 : Nat) (M : zv_M) : Option zv_R := zR X (156, 94, [some (.ref l0), some (.int l1), none, none], [.int s0, .ref s1], M)
noncomputable def zg_M_text_106 (X : zv_X) (l0 : Nat) (M : zv_M) : Option zv_R := zR X (156, 106, [some (.ref l0), none, none, none], [], M)
noncomputable def zg_M_text_108 (X : zv_X) (l0 : Nat) (l3 : Int32) (M : zv_M) : Option zv_R := zR X (156, 108, [some (.ref l0), none, none, some (.int l3)], [], M)
noncomputable def zg_M_text_133 (X : zv_X) (M : zv_M) : Option zv_R := zR X (156, 133, [none, none, none, none], [], M)
noncomputable def zg_M_fault_0 (X : zv_X) (l0 : Nat) (l1 : Int32) (M : zv_M) : Option zv_R := zR X (157, 0, [some (.ref l0), some (.int l1)], [], M)
noncomputable def zg_M_fault_11 (X : zv_X) (l0 : Nat) (l1 : Int32) (M : zv_M) : Option zv_R := zR X (157, 11, [some (.ref l0), some (.int l1)], [], M)
noncomputable def zg_M_fault_23 (X : zv_X) (M : zv_M) : Option zv_R := zR X (157, 23, [none, none], [], M)
noncomputable def zg_M_fault_24 (X : zv_X) (s0 : Int32) (M : zv_M) : Option zv_R := zR X (157, 24, [none, none], [.int s0], M)
noncomputable def zg_M_common_0 (X : zv_X) (l0 l2 : Int64) (M : zv_M) : Option zv_R := zR X (158, 0, [some (.long l0), none, some (.long l2), none, none, none, none, none, none, none], [], M)
noncomputable def zg_M_common_6 (X : zv_X) (l4 l6 : Int64) (M : zv_M) : Option zv_R := zR X (158, 6, [none, none, none, none, some (.long l4), none, some (.long l6), none, none, none], [], M)
noncomputable def zg_M_common_31 (X : zv_X) (l4 : Int64) (M : zv_M) : Option zv_R := zR X (158, 31, [none, none, none, none, some (.long l4), none, none, none, none, none], [], M)
noncomputable def zg_M_common_44 (X : zv_X) (l4 : Int64) (M : zv_M) : Option zv_R := zR X (158, 44, [none, none, none, none, some (.long l4), none, none, none, none, none], [], M)
noncomputable def zg_M_common_46 (X : zv_X) (s0 : Int64) (M : zv_M) : Option zv_R := zR X (158, 46, [none, none, none, none, none, none, none, none, none, none], [.long s0], M)
noncomputable def zg_M_comesTo_0 (X : zv_X) (l0 : Nat) (l1 l2 l3 : Int32) (M : zv_M) : Option zv_R := zR X (159, 0, [some (.ref l0), some (.int l1), some (.int l2), some (.int l3), none, none, none, none, none, none, none, none, none, none, none, none, none, none, none], [], M)
noncomputable def zg_M_comesTo_27 (X : zv_X) (l0 : Nat) (l1 l3 : Int32) (l4 l6 l8 l10 : Int64) (l12 : Int32) (M : zv_M) : Option zv_R := zR X (159, 27, [some (.ref l0), some (.int l1), none, some (.int l3), some (.long l4), none, some (.long l6), none, some (.long l8), none, some (.long l10), none, some (.int l12), none, none, none, none, none, none], [], M)
noncomputable def zg_M_comesTo_114 (X : zv_X) (l0 : Nat) (l1 l3 : Int32) (l8 l10 : Int64) (l12 : Int32) (l13 l15 l17 : Int64) (M : zv_M) : Option zv_R := zR X (159, 114, [some (.ref l0), some (.int l1), none, some (.int l3), none, none, none, none, some (.long l8), none, some (.long l10), none, some (.int l12), some (.long l13), none, some (.long l15), none, some (.long l17), none], [], M)
noncomputable def zg_M_comesTo_122 (X : zv_X) (l0 : Nat) (l1 l3 : Int32) (l4 l6 l8 l10 : Int64) (l12 : Int32) (l13 l17 : Int64) (M : zv_M) : Option zv_R := zR X (159, 122, [some (.ref l0), some (.int l1), none, some (.int l3), some (.long l4), none, some (.long l6), none, some (.long l8), none, some (.long l10), none, some (.int l12), some (.long l13), none, none, none, some (.long l17), none], [], M)
noncomputable def zg_M_comesTo_143 (X : zv_X) (l0 : Nat) (l1 l3 : Int32) (l4 l6 : Int64) (l12 : Int32) (l13 l17 : Int64) (M : zv_M) : Option zv_R := zR X (159, 143, [some (.ref l0), some (.int l1), none, some (.int l3), some (.long l4), none, some (.long l6), none, none, none, none, none, some (.int l12), some (.long l13), none, none, none, some (.long l17), none], [], M)
noncomputable def zg_M_comesTo_151 (X : zv_X) (l0 : Nat) (l1 l3 : Int32) (l4 l6 l8 l10 : Int64) (l12 : Int32) (M : zv_M) : Option zv_R := zR X (159, 151, [some (.ref l0), some (.int l1), none, some (.int l3), some (.long l4), none, some (.long l6), none, some (.long l8), none, some (.long l10), none, some (.int l12), none, none, none, none, none, none], [], M)
noncomputable def zg_M_comesTo_157 (X : zv_X) (l0 : Nat) (l4 l6 l8 l10 : Int64) (M : zv_M) : Option zv_R := zR X (159, 157, [some (.ref l0), none, none, none, some (.long l4), none, some (.long l6), none, some (.long l8), none, some (.long l10), none, none, none, none, none, none, none, none], [], M)
noncomputable def zg_M_comesTo_180 (X : zv_X) (l0 : Nat) (l4 l6 l8 l10 : Int64) (M : zv_M) : Option zv_R := zR X (159, 180, [some (.ref l0), none, none, none, some (.long l4), none, some (.long l6), none, some (.long l8), none, some (.long l10), none, none, none, none, none, none, none, none], [], M)
noncomputable def zg_M_covers_0 (X : zv_X) (l0 : Nat) (l1 : Int32) (M : zv_M) : Option zv_R := zR X (160, 0, [some (.ref l0), some (.int l1), none, none, none, none, none, none], [], M)
noncomputable def zg_M_covers_9 (X : zv_X) (l0 : Nat) (l1 l2 : Int32) (M : zv_M) : Option zv_R := zR X (160, 9, [some (.ref l0), some (.int l1), some (.int l2), none, none, none, none, none], [], M)
noncomputable def zg_M_covers_33 (X : zv_X) (l0 : Nat) (l1 l2 l3 : Int32) (M : zv_M) : Option zv_R := zR X (160, 33, [some (.ref l0), some (.int l1), some (.int l2), some (.int l3), none, none, none, none], [], M)
noncomputable def zg_M_covers_59 (X : zv_X) (l0 : Nat) (l1 l2 l3 : Int32) (M : zv_M) : Option zv_R := zR X (160, 59, [some (.ref l0), some (.int l1), some (.int l2), some (.int l3), none, none, none, none], [], M)
noncomputable def zg_M_covers_107 (X : zv_X) (l0 : Nat) (l1 l3 l4 : Int32) (M : zv_M) : Option zv_R := zR X (160, 107, [some (.ref l0), some (.int l1), none, some (.int l3), some (.int l4), none, none, none], [], M)
noncomputable def zg_M_covers_111 (X : zv_X) (l0 : Nat) (l1 l3 l4 : Int32) (M : zv_M) : Option zv_R := zR X (160, 111, [some (.ref l0), some (.int l1), none, some (.int l3), some (.int l4), none, none, none], [], M)
noncomputable def zg_M_covers_112 (X : zv_X) (l0 : Nat) (l1 l3 l4 s0 : Int32) (M : zv_M) : Option zv_R := zR X (160, 112, [some (.ref l0), some (.int l1), none, some (.int l3), some (.int l4), none, none, none], [.int s0], M)
noncomputable def zg_M_covers_123 (X : zv_X) (l0 : Nat) (l1 l3 l4 l5 : Int32) (M : zv_M) : Option zv_R := zR X (160, 123, [some (.ref l0), some (.int l1), none, some (.int l3), some (.int l4), some (.int l5), none, none], [], M)
noncomputable def zg_M_covers_134 (X : zv_X) (l0 : Nat) (l1 l3 l4 l5 : Int32) (s0 : Int64) (M : zv_M) : Option zv_R := zR X (160, 134, [some (.ref l0), some (.int l1), none, some (.int l3), some (.int l4), some (.int l5), none, none], [.long s0], M)
noncomputable def zg_M_covers_153 (X : zv_X) (l0 : Nat) (l1 l3 l4 l5 : Int32) (l6 : Int64) (s0 : Int32) (s1 : Nat) (M : zv_M) : Option zv_R := zR X (160, 153, [some (.ref l0), some (.int l1), none, some (.int l3), some (.int l4), some (.int l5), some (.long l6), none], [.int s0, .ref s1], M)
noncomputable def zg_M_covers_160 (X : zv_X) (l0 : Nat) (l1 l3 l4 l5 : Int32) (l6 s0 : Int64) (s1 : Int32) (s2 : Nat) (M : zv_M) : Option zv_R := zR X (160, 160, [some (.ref l0), some (.int l1), none, some (.int l3), some (.int l4), some (.int l5), some (.long l6), none], [.long s0, .int s1, .ref s2], M)
noncomputable def zg_M_covers_178 (X : zv_X) (l0 : Nat) (l1 l3 : Int32) (l6 : Int64) (s0 : Int32) (s1 : Nat) (M : zv_M) : Option zv_R := zR X (160, 178, [some (.ref l0), some (.int l1), none, some (.int l3), none, none, some (.long l6), none], [.int s0, .ref s1], M)
noncomputable def zg_M_covers_185 (X : zv_X) (l0 : Nat) (l1 l3 : Int32) (s0 : Int64) (s1 : Int32) (s2 : Nat) (M : zv_M) : Option zv_R := zR X (160, 185, [some (.ref l0), some (.int l1), none, some (.int l3), none, none, none, none], [.long s0, .int s1, .ref s2], M)
noncomputable def zg_M_covers_201 (X : zv_X) (M : zv_M) : Option zv_R := zR X (160, 201, [none, none, none, none, none, none, none, none], [], M)
noncomputable def zg_M_laysLevels_0 (X : zv_X) (l0 : Nat) (l1 l2 : Int32) (M : zv_M) : Option zv_R := zR X (161, 0, [some (.ref l0), some (.int l1), some (.int l2), none, none], [], M)
noncomputable def zg_M_laysLevels_27 (X : zv_X) (l0 : Nat) (M : zv_M) : Option zv_R := zR X (161, 27, [some (.ref l0), none, none, none, none], [], M)
noncomputable def zg_M_laysLevels_28 (X : zv_X) (l0 : Nat) (s0 : Int32) (M : zv_M) : Option zv_R := zR X (161, 28, [some (.ref l0), none, none, none, none], [.int s0], M)
noncomputable def zg_M_laysLevels_29 (X : zv_X) (l0 : Nat) (l3 : Int32) (M : zv_M) : Option zv_R := zR X (161, 29, [some (.ref l0), none, none, some (.int l3), none], [], M)
noncomputable def zg_M_laysLevels_70 (X : zv_X) (l0 : Nat) (M : zv_M) : Option zv_R := zR X (161, 70, [some (.ref l0), none, none, none, none], [], M)
noncomputable def zg_M_laysLevels_71 (X : zv_X) (l0 : Nat) (s0 : Int32) (M : zv_M) : Option zv_R := zR X (161, 71, [some (.ref l0), none, none, none, none], [.int s0], M)
noncomputable def zg_M_laysLevels_79 (X : zv_X) (l0 : Nat) (l3 : Int32) (M : zv_M) : Option zv_R := zR X (161, 79, [some (.ref l0), none, none, some (.int l3), none], [], M)
noncomputable def zg_M_laysLevels_117 (X : zv_X) (l0 : Nat) (l3 l4 : Int32) (M : zv_M) : Option zv_R := zR X (161, 117, [some (.ref l0), none, none, some (.int l3), some (.int l4)], [], M)
noncomputable def zg_M_laysLevels_175 (X : zv_X) (l0 : Nat) (l3 : Int32) (M : zv_M) : Option zv_R := zR X (161, 175, [some (.ref l0), none, none, some (.int l3), none], [], M)
noncomputable def zg_M_laysLevels_178 (X : zv_X) (M : zv_M) : Option zv_R := zR X (161, 178, [none, none, none, none, none], [], M)
noncomputable def zg_M_laysRow_0 (X : zv_X) (l0 : Nat) (l1 : Int32) (M : zv_M) : Option zv_R := zR X (162, 0, [some (.ref l0), some (.int l1), none], [], M)
noncomputable def zg_M_laysRow_2 (X : zv_X) (l0 : Nat) (l1 l2 : Int32) (M : zv_M) : Option zv_R := zR X (162, 2, [some (.ref l0), some (.int l1), some (.int l2)], [], M)
noncomputable def zg_M_laysRow_36 (X : zv_X) (l0 : Nat) (l1 : Int32) (M : zv_M) : Option zv_R := zR X (162, 36, [some (.ref l0), some (.int l1), none], [], M)
noncomputable def zg_M_downwards_0 (X : zv_X) (l0 l2 : Int64) (M : zv_M) : Option zv_R := zR X (163, 0, [some (.long l0), none, some (.long l2), none, none, none], [], M)
noncomputable def zg_M_downwards_26 (X : zv_X) (l4 : Int64) (M : zv_M) : Option zv_R := zR X (163, 26, [none, none, none, none, some (.long l4), none], [], M)
noncomputable def zg_M_downwards_28 (X : zv_X) (s0 : Int64) (M : zv_M) : Option zv_R := zR X (163, 28, [none, none, none, none, none, none], [.long s0], M)
noncomputable def zg_M_guessOf_0 (X : zv_X) (l0 : Nat) (l1 l2 l3 : Int32) (M : zv_M) : Option zv_R := zR X (164, 0, [some (.ref l0), some (.int l1), some (.int l2), some (.int l3), none, none, none, none, none], [], M)
noncomputable def zg_M_guessOf_15 (X : zv_X) (l0 : Nat) (l1 l2 l3 : Int32) (l4 : Int64) (l6 : Int32) (M : zv_M) : Option zv_R := zR X (164, 15, [some (.ref l0), some (.int l1), some (.int l2), some (.int l3), some (.long l4), none, some (.int l6), none, none], [], M)
noncomputable def zg_M_guessOf_87 (X : zv_X) (l0 : Nat) (l1 l2 l3 : Int32) (l4 : Int64) (l6 : Int32) (M : zv_M) : Option zv_R := zR X (164, 87, [some (.ref l0), some (.int l1), some (.int l2), some (.int l3), some (.long l4), none, some (.int l6), none, none], [], M)
noncomputable def zg_M_guessOf_89 (X : zv_X) (l0 : Nat) (l1 l2 l3 l6 : Int32) (s0 : Int64) (M : zv_M) : Option zv_R := zR X (164, 89, [some (.ref l0), some (.int l1), some (.int l2), some (.int l3), none, none, some (.int l6), none, none], [.long s0], M)
noncomputable def zg_M_guessOf_97 (X : zv_X) (l0 : Nat) (l1 l2 : Int32) (l4 : Int64) (M : zv_M) : Option zv_R := zR X (164, 97, [some (.ref l0), some (.int l1), some (.int l2), none, some (.long l4), none, none, none, none], [], M)
noncomputable def zg_M_guessOf_121 (X : zv_X) (l4 l6 : Int64) (M : zv_M) : Option zv_R := zR X (164, 121, [none, none, none, none, some (.long l4), none, some (.long l6), none, none], [], M)
noncomputable def zg_M_guessOf_134 (X : zv_X) (l4 : Int64) (M : zv_M) : Option zv_R := zR X (164, 134, [none, none, none, none, some (.long l4), none, none, none, none], [], M)
noncomputable def zg_M_guessOf_136 (X : zv_X) (s0 : Int64) (M : zv_M) : Option zv_R := zR X (164, 136, [none, none, none, none, none, none, none, none, none], [.long s0], M)
noncomputable def zg_M_isPiece_0 (X : zv_X) (l0 : Nat) (l1 l2 : Int32) (M : zv_M) : Option zv_R := zR X (165, 0, [some (.ref l0), some (.int l1), some (.int l2)], [], M)
noncomputable def zg_M_isPiece_34 (X : zv_X) (M : zv_M) : Option zv_R := zR X (165, 34, [none, none, none], [], M)
noncomputable def zg_M_isPiece_35 (X : zv_X) (s0 : Int32) (M : zv_M) : Option zv_R := zR X (165, 35, [none, none, none], [.int s0], M)
noncomputable def zg_M_piece_0 (X : zv_X) (l0 : Nat) (l1 l2 l3 : Int32) (M : zv_M) : Option zv_R := zR X (166, 0, [some (.ref l0), some (.int l1), some (.int l2), some (.int l3)], [], M)
noncomputable def zg_M_piece_22 (X : zv_X) (l0 : Nat) (l1 l2 l3 : Int32) (M : zv_M) : Option zv_R := zR X (166, 22, [some (.ref l0), some (.int l1), some (.int l2), some (.int l3)], [], M)
noncomputable def zg_M_piece_56 (X : zv_X) (l0 : Nat) (l1 l2 : Int32) (M : zv_M) : Option zv_R := zR X (166, 56, [some (.ref l0), some (.int l1), some (.int l2), none], [], M)
noncomputable def zg_M_piece_65 (X : zv_X) (l0 : Nat) (l1 l2 : Int32) (M : zv_M) : Option zv_R := zR X (166, 65, [some (.ref l0), some (.int l1), some (.int l2), none], [], M)
noncomputable def zg_M_piece_74 (X : zv_X) (l0 : Nat) (l1 l2 : Int32) (M : zv_M) : Option zv_R := zR X (166, 74, [some (.ref l0), some (.int l1), some (.int l2), none], [], M)
noncomputable def zg_M_piece_84 (X : zv_X) (l0 : Nat) (l1 l2 : Int32) (M : zv_M) : Option zv_R := zR X (166, 84, [some (.ref l0), some (.int l1), some (.int l2), none], [], M)
noncomputable def zg_M_piece_94 (X : zv_X) (l0 : Nat) (l1 l2 : Int32) (M : zv_M) : Option zv_R := zR X (166, 94, [some (.ref l0), some (.int l1), some (.int l2), none], [], M)
noncomputable def zg_M_piece_110 (X : zv_X) (M : zv_M) : Option zv_R := zR X (166, 110, [none, none, none, none], [], M)
noncomputable def zg_M_guess_0 (X : zv_X) (l0 : Nat) (l1 l2 l3 : Int32) (M : zv_M) : Option zv_R := zR X (167, 0, [some (.ref l0), some (.int l1), some (.int l2), some (.int l3)], [], M)
noncomputable def zg_M_guess_29 (X : zv_X) (M : zv_M) : Option zv_R := zR X (167, 29, [none, none, none, none], [], M)
noncomputable def zg_M_guess_30 (X : zv_X) (s0 : Int32) (M : zv_M) : Option zv_R := zR X (167, 30, [none, none, none, none], [.int s0], M)
noncomputable def zg_M_halves_0 (X : zv_X) (l0 : Nat) (l1 l2 l3 l4 : Int32) (M : zv_M) : Option zv_R := zR X (168, 0, [some (.ref l0), some (.int l1), some (.int l2), some (.int l3), some (.int l4), none, none, none, none], [], M)
noncomputable def zg_M_halves_6 (X : zv_X) (l0 : Nat) (l1 l4 l5 l6 : Int32) (M : zv_M) : Option zv_R := zR X (168, 6, [some (.ref l0), some (.int l1), none, none, some (.int l4), some (.int l5), some (.int l6), none, none], [], M)
noncomputable def zg_M_halves_54 (X : zv_X) (l0 : Nat) (l1 l4 l5 l6 l7 : Int32) (M : zv_M) : Option zv_R := zR X (168, 54, [some (.ref l0), some (.int l1), none, none, some (.int l4), some (.int l5), some (.int l6), some (.int l7), none], [], M)
noncomputable def zg_M_halves_58 (X : zv_X) (l0 : Nat) (l1 l4 l5 l6 l7 : Int32) (M : zv_M) : Option zv_R := zR X (168, 58, [some (.ref l0), some (.int l1), none, none, some (.int l4), some (.int l5), some (.int l6), some (.int l7), none], [], M)
noncomputable def zg_M_halves_76 (X : zv_X) (l0 : Nat) (l1 l4 l5 l6 l7 : Int32) (M : zv_M) : Option zv_R := zR X (168, 76, [some (.ref l0), some (.int l1), none, none, some (.int l4), some (.int l5), some (.int l6), some (.int l7), none], [], M)
noncomputable def zg_M_halves_77 (X : zv_X) (l0 : Nat) (l1 l4 l5 l6 l7 s0 : Int32) (M : zv_M) : Option zv_R := zR X (168, 77, [some (.ref l0), some (.int l1), none, none, some (.int l4), some (.int l5), some (.int l6), some (.int l7), none], [.int s0], M)
noncomputable def zg_M_halves_93 (X : zv_X) (l0 : Nat) (l1 l4 l5 l7 : Int32) (M : zv_M) : Option zv_R := zR X (168, 93, [some (.ref l0), some (.int l1), none, none, some (.int l4), some (.int l5), none, some (.int l7), none], [], M)
noncomputable def zg_M_halves_97 (X : zv_X) (l0 : Nat) (l1 l4 l5 l6 : Int32) (M : zv_M) : Option zv_R := zR X (168, 97, [some (.ref l0), some (.int l1), none, none, some (.int l4), some (.int l5), some (.int l6), none, none], [], M)
noncomputable def zg_M_halves_100 (X : zv_X) (l5 : Int32) (M : zv_M) : Option zv_R := zR X (168, 100, [none, none, none, none, none, some (.int l5), none, none, none], [], M)
noncomputable def zg_M_seeks_0 (X : zv_X) (l0 : Nat) (l1 : Int32) (M : zv_M) : Option zv_R := zR X (169, 0, [some (.ref l0), some (.int l1), none, none, none, none, none, none], [], M)
noncomputable def zg_M_seeks_17 (X : zv_X) (l0 : Nat) (l1 l2 l3 l4 : Int32) (M : zv_M) : Option zv_R := zR X (169, 17, [some (.ref l0), some (.int l1), some (.int l2), some (.int l3), some (.int l4), none, none, none], [], M)
noncomputable def zg_M_seeks_72 (X : zv_X) (l0 : Nat) (l1 l4 l6 l7 s0 : Int32) (s1 : Nat) (M : zv_M) : Option zv_R := zR X (169, 72, [some (.ref l0), some (.int l1), none, none, some (.int l4), none, some (.int l6), some (.int l7)], [.int s0, .ref s1], M)
noncomputable def zg_M_seeks_74 (X : zv_X) (l0 : Nat) (l1 l4 l7 s0 s1 : Int32) (s2 : Nat) (M : zv_M) : Option zv_R := zR X (169, 74, [some (.ref l0), some (.int l1), none, none, some (.int l4), none, none, some (.int l7)], [.int s0, .int s1, .ref s2], M)
noncomputable def zg_M_seeks_96 (X : zv_X) (l0 : Nat) (l1 l4 l7 s0 s1 : Int32) (s2 : Nat) (M : zv_M) : Option zv_R := zR X (169, 96, [some (.ref l0), some (.int l1), none, none, some (.int l4), none, none, some (.int l7)], [.int s0, .int s1, .ref s2], M)
noncomputable def zg_M_seeks_98 (X : zv_X) (l0 : Nat) (l1 l4 s0 s1 s2 : Int32) (s3 : Nat) (M : zv_M) : Option zv_R := zR X (169, 98, [some (.ref l0), some (.int l1), none, none, some (.int l4), none, none, none], [.int s0, .int s1, .int s2, .ref s3], M)
noncomputable def zg_M_seeks_113 (X : zv_X) (l0 : Nat) (l1 l3 l4 : Int32) (M : zv_M) : Option zv_R := zR X (169, 113, [some (.ref l0), some (.int l1), none, some (.int l3), some (.int l4), none, none, none], [], M)
noncomputable def zg_M_seeks_114 (X : zv_X) (l0 : Nat) (l1 l3 l4 s0 : Int32) (M : zv_M) : Option zv_R := zR X (169, 114, [some (.ref l0), some (.int l1), none, some (.int l3), some (.int l4), none, none, none], [.int s0], M)
noncomputable def zg_M_seeks_121 (X : zv_X) (l3 : Int32) (M : zv_M) : Option zv_R := zR X (169, 121, [none, none, none, some (.int l3), none, none, none, none], [], M)
noncomputable def zg_M_seek_0 (X : zv_X) (l0 : Nat) (l1 l2 : Int32) (M : zv_M) : Option zv_R := zR X (170, 0, [some (.ref l0), some (.int l1), some (.int l2), none], [], M)
noncomputable def zg_M_seek_11 (X : zv_X) (l0 : Nat) (l1 l2 : Int32) (M : zv_M) : Option zv_R := zR X (170, 11, [some (.ref l0), some (.int l1), some (.int l2), none], [], M)
noncomputable def zg_M_seek_40 (X : zv_X) (l0 : Nat) (M : zv_M) : Option zv_R := zR X (170, 40, [some (.ref l0), none, none, none], [], M)
noncomputable def zg_M_seek_44 (X : zv_X) (s0 : Int32) (M : zv_M) : Option zv_R := zR X (170, 44, [none, none, none, none], [.int s0], M)
noncomputable def zg_M_seek_45 (X : zv_X) (l0 : Nat) (l1 : Int32) (M : zv_M) : Option zv_R := zR X (170, 45, [some (.ref l0), some (.int l1), none, none], [], M)
noncomputable def zg_M_pieceOf_0 (X : zv_X) (l0 : Nat) (l1 l2 : Int32) (M : zv_M) : Option zv_R := zR X (171, 0, [some (.ref l0), some (.int l1), some (.int l2), none], [], M)
noncomputable def zg_M_pieceOf_2 (X : zv_X) (l0 : Nat) (l1 l2 l3 : Int32) (M : zv_M) : Option zv_R := zR X (171, 2, [some (.ref l0), some (.int l1), some (.int l2), some (.int l3)], [], M)
noncomputable def zg_M_pieceOf_20 (X : zv_X) (l3 : Int32) (M : zv_M) : Option zv_R := zR X (171, 20, [none, none, none, some (.int l3)], [], M)
noncomputable def zg_M_pages_0 (X : zv_X) (l0 : Nat) (l1 : Int32) (M : zv_M) : Option zv_R := zR X (172, 0, [some (.ref l0), some (.int l1), none, none, none, none, none, none], [], M)
noncomputable def zg_M_pages_11 (X : zv_X) (l0 : Nat) (l1 : Int32) (M : zv_M) : Option zv_R := zR X (172, 11, [some (.ref l0), some (.int l1), none, none, none, none, none, none], [], M)
noncomputable def zg_M_pages_29 (X : zv_X) (l0 : Nat) (l2 l3 : Int32) (l4 : Int64) (M : zv_M) : Option zv_R := zR X (172, 29, [some (.ref l0), none, some (.int l2), some (.int l3), some (.long l4), none, none, none], [], M)
noncomputable def zg_M_pages_55 (X : zv_X) (l2 l3 : Int32) (M : zv_M) : Option zv_R := zR X (172, 55, [none, none, some (.int l2), some (.int l3), none, none, none, none], [], M)
noncomputable def zg_M_pages_61 (X : zv_X) (l0 : Nat) (l2 : Int32) (M : zv_M) : Option zv_R := zR X (172, 61, [some (.ref l0), none, some (.int l2), none, none, none, none, none], [], M)
noncomputable def zg_M_pages_76 (X : zv_X) (l0 : Nat) (l2 l3 l4 : Int32) (M : zv_M) : Option zv_R := zR X (172, 76, [some (.ref l0), none, some (.int l2), some (.int l3), some (.int l4), none, none, none], [], M)
noncomputable def zg_M_pages_121 (X : zv_X) (l0 : Nat) (l2 l3 l4 l5 : Int32) (M : zv_M) : Option zv_R := zR X (172, 121, [some (.ref l0), none, some (.int l2), some (.int l3), some (.int l4), some (.int l5), none, none], [], M)
noncomputable def zg_M_pages_130 (X : zv_X) (l0 : Nat) (l2 l3 l4 l5 s0 : Int32) (M : zv_M) : Option zv_R := zR X (172, 130, [some (.ref l0), none, some (.int l2), some (.int l3), some (.int l4), some (.int l5), none, none], [.int s0], M)
noncomputable def zg_M_pages_153 (X : zv_X) (l0 : Nat) (l2 l3 l4 l5 l6 : Int32) (M : zv_M) : Option zv_R := zR X (172, 153, [some (.ref l0), none, some (.int l2), some (.int l3), some (.int l4), some (.int l5), some (.int l6), none], [], M)
noncomputable def zg_M_pages_162 (X : zv_X) (l0 : Nat) (l2 l3 l4 l6 s0 : Int32) (M : zv_M) : Option zv_R := zR X (172, 162, [some (.ref l0), none, some (.int l2), some (.int l3), some (.int l4), none, some (.int l6), none], [.int s0], M)
noncomputable def zg_M_pages_199 (X : zv_X) (l3 : Int32) (M : zv_M) : Option zv_R := zR X (172, 199, [none, none, none, some (.int l3), none, none, none, none], [], M)
noncomputable def zg_M_errors_0 (X : zv_X) (l0 : Nat) (l1 l2 : Int32) (M : zv_M) : Option zv_R := zR X (173, 0, [some (.ref l0), some (.int l1), some (.int l2), none, none, none, none, none], [], M)
noncomputable def zg_M_errors_33 (X : zv_X) (M : zv_M) : Option zv_R := zR X (173, 33, [none, none, none, none, none, none, none, none], [], M)
noncomputable def zg_M_errors_35 (X : zv_X) (l0 : Nat) (l1 l2 : Int32) (M : zv_M) : Option zv_R := zR X (173, 35, [some (.ref l0), some (.int l1), some (.int l2), none, none, none, none, none], [], M)
noncomputable def zg_M_errors_46 (X : zv_X) (l0 : Nat) (l1 l2 l3 l4 l5 l6 : Int32) (M : zv_M) : Option zv_R := zR X (173, 46, [some (.ref l0), some (.int l1), some (.int l2), some (.int l3), some (.int l4), some (.int l5), some (.int l6), none], [], M)
noncomputable def zg_M_errors_94 (X : zv_X) (l0 : Nat) (l1 l2 l3 l4 l5 l6 l7 : Int32) (M : zv_M) : Option zv_R := zR X (173, 94, [some (.ref l0), some (.int l1), some (.int l2), some (.int l3), some (.int l4), some (.int l5), some (.int l6), some (.int l7)], [], M)
noncomputable def zg_M_errors_96 (X : zv_X) (l0 : Nat) (l1 l2 l3 l4 l5 l6 s0 : Int32) (M : zv_M) : Option zv_R := zR X (173, 96, [some (.ref l0), some (.int l1), some (.int l2), some (.int l3), some (.int l4), some (.int l5), some (.int l6), none], [.int s0], M)
noncomputable def zg_M_errors_113 (X : zv_X) (l0 : Nat) (l1 l2 l3 l6 l7 : Int32) (M : zv_M) : Option zv_R := zR X (173, 113, [some (.ref l0), some (.int l1), some (.int l2), some (.int l3), none, none, some (.int l6), some (.int l7)], [], M)
noncomputable def zg_M_errors_121 (X : zv_X) (l0 : Nat) (l1 l2 l3 l4 l5 l6 : Int32) (M : zv_M) : Option zv_R := zR X (173, 121, [some (.ref l0), some (.int l1), some (.int l2), some (.int l3), some (.int l4), some (.int l5), some (.int l6), none], [], M)
noncomputable def zg_M_errors_127 (X : zv_X) (l2 l3 l4 l5 : Int32) (M : zv_M) : Option zv_R := zR X (173, 127, [none, none, some (.int l2), some (.int l3), some (.int l4), some (.int l5), none, none], [], M)
noncomputable def zg_M_errors_136 (X : zv_X) (l2 l3 l5 : Int32) (M : zv_M) : Option zv_R := zR X (173, 136, [none, none, some (.int l2), some (.int l3), none, some (.int l5), none, none], [], M)
noncomputable def zg_M_errors_145 (X : zv_X) (l5 : Int32) (M : zv_M) : Option zv_R := zR X (173, 145, [none, none, none, none, none, some (.int l5), none, none], [], M)
noncomputable def zg_M_errors_147 (X : zv_X) (s0 : Int32) (M : zv_M) : Option zv_R := zR X (173, 147, [none, none, none, none, none, none, none, none], [.int s0], M)
noncomputable def zg_M_bestSlack_0 (X : zv_X) (l0 : Nat) (l1 : Int32) (M : zv_M) : Option zv_R := zR X (174, 0, [some (.ref l0), some (.int l1), none, none, none, none, none], [], M)
noncomputable def zg_M_bestSlack_11 (X : zv_X) (l0 : Nat) (l1 : Int32) (M : zv_M) : Option zv_R := zR X (174, 11, [some (.ref l0), some (.int l1), none, none, none, none, none], [], M)
noncomputable def zg_M_bestSlack_23 (X : zv_X) (l0 : Nat) (l1 : Int32) (M : zv_M) : Option zv_R := zR X (174, 23, [some (.ref l0), some (.int l1), none, none, none, none, none], [], M)
noncomputable def zg_M_bestSlack_30 (X : zv_X) (l0 : Nat) (l1 l2 l3 l4 : Int32) (M : zv_M) : Option zv_R := zR X (174, 30, [some (.ref l0), some (.int l1), some (.int l2), some (.int l3), some (.int l4), none, none], [], M)
noncomputable def zg_M_bestSlack_49 (X : zv_X) (l0 : Nat) (l1 l2 l3 l4 l5 l6 : Int32) (M : zv_M) : Option zv_R := zR X (174, 49, [some (.ref l0), some (.int l1), some (.int l2), some (.int l3), some (.int l4), some (.int l5), some (.int l6)], [], M)
noncomputable def zg_M_bestSlack_76 (X : zv_X) (l0 : Nat) (l1 l2 l3 l4 l5 : Int32) (M : zv_M) : Option zv_R := zR X (174, 76, [some (.ref l0), some (.int l1), some (.int l2), some (.int l3), some (.int l4), some (.int l5), none], [], M)
noncomputable def zg_M_bestSlack_79 (X : zv_X) (l0 : Nat) (l1 l2 l3 l4 l5 l6 : Int32) (M : zv_M) : Option zv_R := zR X (174, 79, [some (.ref l0), some (.int l1), some (.int l2), some (.int l3), some (.int l4), some (.int l5), some (.int l6)], [], M)
noncomputable def zg_M_bestSlack_121 (X : zv_X) (l0 : Nat) (l1 l2 l3 l4 l5 : Int32) (M : zv_M) : Option zv_R := zR X (174, 121, [some (.ref l0), some (.int l1), some (.int l2), some (.int l3), some (.int l4), some (.int l5), none], [], M)
noncomputable def zg_M_bestSlack_135 (X : zv_X) (l0 : Nat) (l1 l4 l5 : Int32) (M : zv_M) : Option zv_R := zR X (174, 135, [some (.ref l0), some (.int l1), none, none, some (.int l4), some (.int l5), none], [], M)
noncomputable def zg_M_bestSlack_141 (X : zv_X) (l0 : Nat) (l1 l2 l3 l4 : Int32) (M : zv_M) : Option zv_R := zR X (174, 141, [some (.ref l0), some (.int l1), some (.int l2), some (.int l3), some (.int l4), none, none], [], M)
noncomputable def zg_M_bestSlack_147 (X : zv_X) (l1 l2 l3 : Int32) (M : zv_M) : Option zv_R := zR X (174, 147, [none, some (.int l1), some (.int l2), some (.int l3), none, none, none], [], M)
noncomputable def zg_M_bestSlack_155 (X : zv_X) (l3 : Int32) (M : zv_M) : Option zv_R := zR X (174, 155, [none, none, none, some (.int l3), none, none, none], [], M)
noncomputable def zg_M_bestSlack_156 (X : zv_X) (s0 : Int32) (M : zv_M) : Option zv_R := zR X (174, 156, [none, none, none, none, none, none, none], [.int s0], M)
noncomputable def zg_M_lay_0 (X : zv_X) (l0 : Nat) (M : zv_M) : Option zv_R := zR X (175, 0, [some (.ref l0), none, none], [], M)
noncomputable def zg_M_lay_16 (X : zv_X) (l0 : Nat) (l1 : Int32) (M : zv_M) : Option zv_R := zR X (175, 16, [some (.ref l0), some (.int l1), none], [], M)
noncomputable def zg_M_lay_17 (X : zv_X) (l0 : Nat) (s0 : Int32) (M : zv_M) : Option zv_R := zR X (175, 17, [some (.ref l0), none, none], [.int s0], M)
noncomputable def zg_M_lay_20 (X : zv_X) (l0 : Nat) (l1 l2 : Int32) (M : zv_M) : Option zv_R := zR X (175, 20, [some (.ref l0), some (.int l1), some (.int l2)], [], M)
noncomputable def zg_M_lay_43 (X : zv_X) (l0 : Nat) (l1 : Int32) (M : zv_M) : Option zv_R := zR X (175, 43, [some (.ref l0), some (.int l1), none], [], M)
noncomputable def zg_M_lay_45 (X : zv_X) (l0 : Nat) (l1 l2 : Int32) (M : zv_M) : Option zv_R := zR X (175, 45, [some (.ref l0), some (.int l1), some (.int l2)], [], M)
noncomputable def zg_M_lay_72 (X : zv_X) (l1 : Int32) (M : zv_M) : Option zv_R := zR X (175, 72, [none, some (.int l1), none], [], M)
noncomputable def zg_M_fills_0 (X : zv_X) (l0 : Nat) (l1 l2 : Int32) (M : zv_M) : Option zv_R := zR X (176, 0, [some (.ref l0), some (.int l1), some (.int l2)], [], M)
noncomputable def zg_M_isFull_0 (X : zv_X) (l0 : Nat) (l1 : Int32) (M : zv_M) : Option zv_R := zR X (177, 0, [some (.ref l0), some (.int l1)], [], M)
noncomputable def zg_M_isFull_18 (X : zv_X) (M : zv_M) : Option zv_R := zR X (177, 18, [none, none], [], M)
noncomputable def zg_M_isFull_19 (X : zv_X) (s0 : Int32) (M : zv_M) : Option zv_R := zR X (177, 19, [none, none], [.int s0], M)
noncomputable def zg_M_put_0 (X : zv_X) (l0 : Nat) (l1 : Int32) (M : zv_M) : Option zv_R := zR X (178, 0, [some (.ref l0), some (.int l1), none, none, none, none, none, none, none, none], [], M)
noncomputable def zg_M_put_9 (X : zv_X) (l0 : Nat) (l1 : Int32) (M : zv_M) : Option zv_R := zR X (178, 9, [some (.ref l0), some (.int l1), none, none, none, none, none, none, none, none], [], M)
noncomputable def zg_M_put_20 (X : zv_X) (l0 : Nat) (l1 l2 l3 l4 l5 : Int32) (M : zv_M) : Option zv_R := zR X (178, 20, [some (.ref l0), some (.int l1), some (.int l2), some (.int l3), some (.int l4), some (.int l5), none, none, none, none], [], M)
noncomputable def zg_M_put_39 (X : zv_X) (l0 : Nat) (l1 l2 l3 l4 l5 : Int32) (M : zv_M) : Option zv_R := zR X (178, 39, [some (.ref l0), some (.int l1), some (.int l2), some (.int l3), some (.int l4), some (.int l5), none, none, none, none], [], M)
noncomputable def zg_M_put_59 (X : zv_X) (l0 : Nat) (l1 l2 l3 l4 l5 : Int32) (M : zv_M) : Option zv_R := zR X (178, 59, [some (.ref l0), some (.int l1), some (.int l2), some (.int l3), some (.int l4), some (.int l5), none, none, none, none], [], M)
noncomputable def zg_M_put_80 (X : zv_X) (l0 : Nat) (l1 l2 l3 l4 l5 : Int32) (M : zv_M) : Option zv_R := zR X (178, 80, [some (.ref l0), some (.int l1), some (.int l2), some (.int l3), some (.int l4), some (.int l5), none, none, none, none], [], M)
noncomputable def zg_M_put_89 (X : zv_X) (l0 : Nat) (l1 l2 l3 l4 l5 : Int32) (M : zv_M) : Option zv_R := zR X (178, 89, [some (.ref l0), some (.int l1), some (.int l2), some (.int l3), some (.int l4), some (.int l5), none, none, none, none], [], M)
noncomputable def zg_M_put_95 (X : zv_X) (l0 : Nat) (l1 l2 l3 l4 : Int32) (M : zv_M) : Option zv_R := zR X (178, 95, [some (.ref l0), some (.int l1), some (.int l2), some (.int l3), some (.int l4), none, none, none, none, none], [], M)
noncomputable def zg_M_put_104 (X : zv_X) (l0 : Nat) (l1 l2 l3 : Int32) (M : zv_M) : Option zv_R := zR X (178, 104, [some (.ref l0), some (.int l1), some (.int l2), some (.int l3), none, none, none, none, none, none], [], M)
noncomputable def zg_M_put_122 (X : zv_X) (l1 l2 l3 : Int32) (s0 : Nat) (M : zv_M) : Option zv_R := zR X (178, 122, [none, some (.int l1), some (.int l2), some (.int l3), none, none, none, none, none, none], [.ref s0], M)
noncomputable def zg_M_put_127 (X : zv_X) (l1 s0 : Int32) (s1 : Nat) (M : zv_M) : Option zv_R := zR X (178, 127, [none, some (.int l1), none, none, none, none, none, none, none, none], [.int s0, .ref s1], M)
noncomputable def zg_M_put_133 (X : zv_X) (l0 : Nat) (l1 l2 l3 : Int32) (M : zv_M) : Option zv_R := zR X (178, 133, [some (.ref l0), some (.int l1), some (.int l2), some (.int l3), none, none, none, none, none, none], [], M)
noncomputable def zg_M_put_136 (X : zv_X) (l0 : Nat) (l1 l2 l3 l5 : Int32) (M : zv_M) : Option zv_R := zR X (178, 136, [some (.ref l0), some (.int l1), some (.int l2), some (.int l3), none, some (.int l5), none, none, none, none], [], M)
noncomputable def zg_M_put_156 (X : zv_X) (l0 : Nat) (l1 l2 l3 l5 : Int32) (M : zv_M) : Option zv_R := zR X (178, 156, [some (.ref l0), some (.int l1), some (.int l2), some (.int l3), none, some (.int l5), none, none, none, none], [], M)
noncomputable def zg_M_put_159 (X : zv_X) (l0 : Nat) (l1 l2 l3 l5 l6 : Int32) (M : zv_M) : Option zv_R := zR X (178, 159, [some (.ref l0), some (.int l1), some (.int l2), some (.int l3), none, some (.int l5), some (.int l6), none, none, none], [], M)
noncomputable def zg_M_put_181 (X : zv_X) (l0 : Nat) (l1 l2 l3 l5 l6 : Int32) (M : zv_M) : Option zv_R := zR X (178, 181, [some (.ref l0), some (.int l1), some (.int l2), some (.int l3), none, some (.int l5), some (.int l6), none, none, none], [], M)
noncomputable def zg_M_put_204 (X : zv_X) (l0 : Nat) (l1 l2 l3 l5 l6 : Int32) (M : zv_M) : Option zv_R := zR X (178, 204, [some (.ref l0), some (.int l1), some (.int l2), some (.int l3), none, some (.int l5), some (.int l6), none, none, none], [], M)
noncomputable def zg_M_put_208 (X : zv_X) (l0 : Nat) (l1 l2 l3 l5 l6 : Int32) (M : zv_M) : Option zv_R := zR X (178, 208, [some (.ref l0), some (.int l1), some (.int l2), some (.int l3), none, some (.int l5), some (.int l6), none, none, none], [], M)
noncomputable def zg_M_put_209 (X : zv_X) (l0 : Nat) (l1 l2 l3 l5 l6 s0 : Int32) (M : zv_M) : Option zv_R := zR X (178, 209, [some (.ref l0), some (.int l1), some (.int l2), some (.int l3), none, some (.int l5), some (.int l6), none, none, none], [.int s0], M)
noncomputable def zg_M_put_223 (X : zv_X) (l0 : Nat) (l1 l2 l3 l5 l6 l7 : Int32) (M : zv_M) : Option zv_R := zR X (178, 223, [some (.ref l0), some (.int l1), some (.int l2), some (.int l3), none, some (.int l5), some (.int l6), some (.int l7), none, none], [], M)
noncomputable def zg_M_put_227 (X : zv_X) (l0 : Nat) (l1 l2 l3 l5 l6 l7 s0 : Int32) (M : zv_M) : Option zv_R := zR X (178, 227, [some (.ref l0), some (.int l1), some (.int l2), some (.int l3), none, some (.int l5), some (.int l6), some (.int l7), none, none], [.int s0], M)
noncomputable def zg_M_put_232 (X : zv_X) (l0 : Nat) (l1 l2 l3 l5 l6 l7 l8 l9 : Int32) (M : zv_M) : Option zv_R := zR X (178, 232, [some (.ref l0), some (.int l1), some (.int l2), some (.int l3), none, some (.int l5), some (.int l6), some (.int l7), some (.int l8), some (.int l9)], [], M)
noncomputable def zg_M_put_253 (X : zv_X) (l0 : Nat) (l1 l2 l3 l5 l6 l7 l8 l9 : Int32) (s0 : Nat) (M : zv_M) : Option zv_R := zR X (178, 253, [some (.ref l0), some (.int l1), some (.int l2), some (.int l3), none, some (.int l5), some (.int l6), some (.int l7), some (.int l8), some (.int l9)], [.ref s0], M)
noncomputable def zg_M_put_258 (X : zv_X) (l0 : Nat) (l1 l2 l3 l5 l6 l7 l8 l9 s0 : Int32) (s1 : Nat) (M : zv_M) : Option zv_R := zR X (178, 258, [some (.ref l0), some (.int l1), some (.int l2), some (.int l3), none, some (.int l5), some (.int l6), some (.int l7), some (.int l8), some (.int l9)], [.int s0, .ref s1], M)
noncomputable def zg_M_put_280 (X : zv_X) (l0 : Nat) (l1 l2 l3 l5 l6 l7 l8 l9 s0 : Int32) (s1 : Nat) (s2 : Int32) (s3 : Nat) (M : zv_M) : Option zv_R := zR X (178, 280, [some (.ref l0), some (.int l1), some (.int l2), some (.int l3), none, some (.int l5), some (.int l6), some (.int l7), some (.int l8), some (.int l9)], [.int s0, .ref s1, .int s2, .ref s3], M)
noncomputable def zg_M_put_287 (X : zv_X) (l0 : Nat) (l1 l2 l3 l5 l6 l7 l8 l9 s0 s1 : Int32) (s2 : Nat) (s3 : Int32) (s4 : Nat) (M : zv_M) : Option zv_R := zR X (178, 287, [some (.ref l0), some (.int l1), some (.int l2), some (.int l3), none, some (.int l5), some (.int l6), some (.int l7), some (.int l8), some (.int l9)], [.int s0, .int s1, .ref s2, .int s3, .ref s4], M)
noncomputable def zg_M_put_298 (X : zv_X) (l0 : Nat) (l1 l2 l3 l7 l8 : Int32) (M : zv_M) : Option zv_R := zR X (178, 298, [some (.ref l0), some (.int l1), some (.int l2), some (.int l3), none, none, none, some (.int l7), some (.int l8), none], [], M)
noncomputable def zg_M_put_308 (X : zv_X) (l1 l3 l8 : Int32) (s0 : Nat) (M : zv_M) : Option zv_R := zR X (178, 308, [none, some (.int l1), none, some (.int l3), none, none, none, none, some (.int l8), none], [.ref s0], M)
noncomputable def zg_M_put_309 (X : zv_X) (l1 l8 s0 : Int32) (s1 : Nat) (M : zv_M) : Option zv_R := zR X (178, 309, [none, some (.int l1), none, none, none, none, none, none, some (.int l8), none], [.int s0, .ref s1], M)
noncomputable def zg_M_cell_0 (X : zv_X) (l0 : Nat) (l1 : Int32) (M : zv_M) : Option zv_R := zR X (179, 0, [some (.ref l0), some (.int l1)], [], M)
noncomputable def zg_M_cell_31 (X : zv_X) (M : zv_M) : Option zv_R := zR X (179, 31, [none, none], [], M)
noncomputable def zg_M_cell_33 (X : zv_X) (s0 : Int32) (M : zv_M) : Option zv_R := zR X (179, 33, [none, none], [.int s0], M)
noncomputable def zg_M_piecesWith_0 (X : zv_X) (l0 : Nat) (l1 l2 l3 : Int32) (M : zv_M) : Option zv_R := zR X (180, 0, [some (.ref l0), some (.int l1), some (.int l2), some (.int l3), none, none, none], [], M)
noncomputable def zg_M_piecesWith_11 (X : zv_X) (l0 : Nat) (l1 l2 l4 : Int32) (M : zv_M) : Option zv_R := zR X (180, 11, [some (.ref l0), some (.int l1), some (.int l2), none, some (.int l4), none, none], [], M)
noncomputable def zg_M_piecesWith_12 (X : zv_X) (l0 : Nat) (l1 l2 l4 s0 : Int32) (M : zv_M) : Option zv_R := zR X (180, 12, [some (.ref l0), some (.int l1), some (.int l2), none, some (.int l4), none, none], [.int s0], M)
noncomputable def zg_M_piecesWith_17 (X : zv_X) (l0 : Nat) (l1 l2 l4 l5 l6 : Int32) (M : zv_M) : Option zv_R := zR X (180, 17, [some (.ref l0), some (.int l1), some (.int l2), none, some (.int l4), some (.int l5), some (.int l6)], [], M)
noncomputable def zg_M_piecesWith_55 (X : zv_X) (l0 : Nat) (l1 l2 l4 l5 l6 : Int32) (M : zv_M) : Option zv_R := zR X (180, 55, [some (.ref l0), some (.int l1), some (.int l2), none, some (.int l4), some (.int l5), some (.int l6)], [], M)
noncomputable def zg_M_piecesWith_80 (X : zv_X) (l0 : Nat) (l2 l4 l5 : Int32) (M : zv_M) : Option zv_R := zR X (180, 80, [some (.ref l0), none, some (.int l2), none, some (.int l4), some (.int l5), none], [], M)
noncomputable def zg_M_piecesWith_98 (X : zv_X) (l0 : Nat) (l4 : Int32) (M : zv_M) : Option zv_R := zR X (180, 98, [some (.ref l0), none, none, none, some (.int l4), none, none], [], M)
noncomputable def zg_M_poison_0 (X : zv_X) (l0 : Nat) (l1 : Int32) (M : zv_M) : Option zv_R := zR X (181, 0, [some (.ref l0), some (.int l1), none, none, none, none, none, none, none], [], M)
noncomputable def zg_M_poison_11 (X : zv_X) (l0 : Nat) (l1 : Int32) (M : zv_M) : Option zv_R := zR X (181, 11, [some (.ref l0), some (.int l1), none, none, none, none, none, none, none], [], M)
noncomputable def zg_M_poison_25 (X : zv_X) (l0 : Nat) (l1 l2 l3 l4 l5 : Int32) (M : zv_M) : Option zv_R := zR X (181, 25, [some (.ref l0), some (.int l1), some (.int l2), some (.int l3), some (.int l4), some (.int l5), none, none, none], [], M)
noncomputable def zg_M_poison_34 (X : zv_X) (l0 : Nat) (l1 l2 l3 l4 l5 l6 : Int32) (M : zv_M) : Option zv_R := zR X (181, 34, [some (.ref l0), some (.int l1), some (.int l2), some (.int l3), some (.int l4), some (.int l5), some (.int l6), none, none], [], M)
noncomputable def zg_M_poison_72 (X : zv_X) (l0 : Nat) (l1 l2 l3 l4 l5 l6 l7 : Int32) (M : zv_M) : Option zv_R := zR X (181, 72, [some (.ref l0), some (.int l1), some (.int l2), some (.int l3), some (.int l4), some (.int l5), some (.int l6), some (.int l7), none], [], M)
noncomputable def zg_M_poison_105 (X : zv_X) (l0 : Nat) (l1 l2 l5 l6 l7 l8 : Int32) (M : zv_M) : Option zv_R := zR X (181, 105, [some (.ref l0), some (.int l1), some (.int l2), none, none, some (.int l5), some (.int l6), some (.int l7), some (.int l8)], [], M)
noncomputable def zg_M_poison_112 (X : zv_X) (l0 : Nat) (l1 l2 l3 l4 l5 l6 : Int32) (M : zv_M) : Option zv_R := zR X (181, 112, [some (.ref l0), some (.int l1), some (.int l2), some (.int l3), some (.int l4), some (.int l5), some (.int l6), none, none], [], M)
noncomputable def zg_M_poison_118 (X : zv_X) (l0 : Nat) (l1 l2 l3 l4 l5 : Int32) (M : zv_M) : Option zv_R := zR X (181, 118, [some (.ref l0), some (.int l1), some (.int l2), some (.int l3), some (.int l4), some (.int l5), none, none, none], [], M)
noncomputable def zg_M_poison_124 (X : zv_X) (l0 : Nat) (l1 l2 l3 l4 : Int32) (M : zv_M) : Option zv_R := zR X (181, 124, [some (.ref l0), some (.int l1), some (.int l2), some (.int l3), some (.int l4), none, none, none, none], [], M)
noncomputable def zg_M_poison_132 (X : zv_X) (l0 : Nat) (l2 l3 l4 : Int32) (M : zv_M) : Option zv_R := zR X (181, 132, [some (.ref l0), none, some (.int l2), some (.int l3), some (.int l4), none, none, none, none], [], M)
noncomputable def zg_M_poison_148 (X : zv_X) (l4 : Int32) (M : zv_M) : Option zv_R := zR X (181, 148, [none, none, none, none, some (.int l4), none, none, none, none], [], M)
noncomputable def zg_M_poison_150 (X : zv_X) (s0 : Int32) (M : zv_M) : Option zv_R := zR X (181, 150, [none, none, none, none, none, none, none, none, none], [.int s0], M)
noncomputable def zg_M_hash_0 (X : zv_X) (l0 : Nat) (l1 l2 : Int32) (M : zv_M) : Option zv_R := zR X (182, 0, [some (.ref l0), some (.int l1), some (.int l2), none, none], [], M)
noncomputable def zg_M_setsBits_0 (X : zv_X) (l0 : Nat) (l1 l2 : Int32) (M : zv_M) : Option zv_R := zR X (183, 0, [some (.ref l0), some (.int l1), some (.int l2), none, none, none, none], [], M)
noncomputable def zg_M_setsBits_2 (X : zv_X) (l0 : Nat) (l1 l2 l3 : Int32) (M : zv_M) : Option zv_R := zR X (183, 2, [some (.ref l0), some (.int l1), some (.int l2), some (.int l3), none, none, none], [], M)
noncomputable def zg_M_setsBits_22 (X : zv_X) (l0 : Nat) (l1 l2 : Int32) (M : zv_M) : Option zv_R := zR X (183, 22, [some (.ref l0), some (.int l1), some (.int l2), none, none, none, none], [], M)
noncomputable def zg_M_setsBits_24 (X : zv_X) (l0 : Nat) (l1 l2 l3 : Int32) (M : zv_M) : Option zv_R := zR X (183, 24, [some (.ref l0), some (.int l1), some (.int l2), some (.int l3), none, none, none], [], M)
noncomputable def zg_M_setsBits_62 (X : zv_X) (l0 : Nat) (l1 l2 l3 : Int32) (M : zv_M) : Option zv_R := zR X (183, 62, [some (.ref l0), some (.int l1), some (.int l2), some (.int l3), none, none, none], [], M)
noncomputable def zg_M_setsBits_63 (X : zv_X) (l0 : Nat) (l1 l2 l3 s0 : Int32) (M : zv_M) : Option zv_R := zR X (183, 63, [some (.ref l0), some (.int l1), some (.int l2), some (.int l3), none, none, none], [.int s0], M)
noncomputable def zg_M_setsBits_101 (X : zv_X) (l0 : Nat) (l1 l2 l3 l4 : Int32) (M : zv_M) : Option zv_R := zR X (183, 101, [some (.ref l0), some (.int l1), some (.int l2), some (.int l3), some (.int l4), none, none], [], M)
noncomputable def zg_M_setsBits_102 (X : zv_X) (l0 : Nat) (l1 l2 l3 l4 s0 : Int32) (M : zv_M) : Option zv_R := zR X (183, 102, [some (.ref l0), some (.int l1), some (.int l2), some (.int l3), some (.int l4), none, none], [.int s0], M)
noncomputable def zg_M_setsBits_123 (X : zv_X) (l0 : Nat) (l1 l2 l3 s0 : Int32) (s1 : Nat) (M : zv_M) : Option zv_R := zR X (183, 123, [some (.ref l0), some (.int l1), some (.int l2), some (.int l3), none, none, none], [.int s0, .ref s1], M)
noncomputable def zg_M_setsBits_124 (X : zv_X) (l0 : Nat) (l1 l2 l3 s0 s1 : Int32) (s2 : Nat) (M : zv_M) : Option zv_R := zR X (183, 124, [some (.ref l0), some (.int l1), some (.int l2), some (.int l3), none, none, none], [.int s0, .int s1, .ref s2], M)
noncomputable def zg_M_setsBits_141 (X : zv_X) (l0 : Nat) (l1 l2 l3 : Int32) (M : zv_M) : Option zv_R := zR X (183, 141, [some (.ref l0), some (.int l1), some (.int l2), some (.int l3), none, none, none], [], M)
noncomputable def zg_M_setsBits_144 (X : zv_X) (l0 : Nat) (l1 l2 l3 l6 : Int32) (M : zv_M) : Option zv_R := zR X (183, 144, [some (.ref l0), some (.int l1), some (.int l2), some (.int l3), none, none, some (.int l6)], [], M)
noncomputable def zg_M_setsBits_180 (X : zv_X) (l0 : Nat) (l1 l2 l3 : Int32) (M : zv_M) : Option zv_R := zR X (183, 180, [some (.ref l0), some (.int l1), some (.int l2), some (.int l3), none, none, none], [], M)
noncomputable def zg_M_setsBits_186 (X : zv_X) (M : zv_M) : Option zv_R := zR X (183, 186, [none, none, none, none, none, none, none], [], M)
noncomputable def zg_M_isPassed_0 (X : zv_X) (l0 : Nat) (l1 l2 l3 : Int32) (M : zv_M) : Option zv_R := zR X (184, 0, [some (.ref l0), some (.int l1), some (.int l2), some (.int l3), none], [], M)
noncomputable def zg_M_isPassed_9 (X : zv_X) (l0 : Nat) (l1 l2 l3 : Int32) (M : zv_M) : Option zv_R := zR X (184, 9, [some (.ref l0), some (.int l1), some (.int l2), some (.int l3), none], [], M)
noncomputable def zg_M_isPassed_16 (X : zv_X) (l0 : Nat) (l1 l2 l4 : Int32) (M : zv_M) : Option zv_R := zR X (184, 16, [some (.ref l0), some (.int l1), some (.int l2), none, some (.int l4)], [], M)
noncomputable def zg_M_isPassed_43 (X : zv_X) (l0 : Nat) (l1 l2 l4 : Int32) (M : zv_M) : Option zv_R := zR X (184, 43, [some (.ref l0), some (.int l1), some (.int l2), none, some (.int l4)], [], M)
noncomputable def zg_M_isPassed_102 (X : zv_X) (M : zv_M) : Option zv_R := zR X (184, 102, [none, none, none, none, none], [], M)
noncomputable def zg_M_isPassed_104 (X : zv_X) (l0 : Nat) (l1 l2 l4 : Int32) (M : zv_M) : Option zv_R := zR X (184, 104, [some (.ref l0), some (.int l1), some (.int l2), none, some (.int l4)], [], M)
noncomputable def zg_M_isPassed_110 (X : zv_X) (l0 : Nat) (l2 : Int32) (M : zv_M) : Option zv_R := zR X (184, 110, [some (.ref l0), none, some (.int l2), none, none], [], M)
noncomputable def zg_M_isPassed_113 (X : zv_X) (l0 : Nat) (l2 l4 : Int32) (M : zv_M) : Option zv_R := zR X (184, 113, [some (.ref l0), none, some (.int l2), none, some (.int l4)], [], M)
noncomputable def zg_M_isPassed_142 (X : zv_X) (l0 : Nat) (l2 l4 : Int32) (M : zv_M) : Option zv_R := zR X (184, 142, [some (.ref l0), none, some (.int l2), none, some (.int l4)], [], M)
noncomputable def zg_M_isPassed_148 (X : zv_X) (M : zv_M) : Option zv_R := zR X (184, 148, [none, none, none, none, none], [], M)
noncomputable def zg_M_passes_0 (X : zv_X) (l0 : Nat) (l1 l2 : Int32) (M : zv_M) : Option zv_R := zR X (185, 0, [some (.ref l0), some (.int l1), some (.int l2), none], [], M)
noncomputable def zg_M_falses_0 (X : zv_X) (l0 : Nat) (l1 l2 l3 : Int32) (M : zv_M) : Option zv_R := zR X (186, 0, [some (.ref l0), some (.int l1), some (.int l2), some (.int l3), none, none, none], [], M)
noncomputable def zg_M_falses_17 (X : zv_X) (M : zv_M) : Option zv_R := zR X (186, 17, [none, none, none, none, none, none, none], [], M)
noncomputable def zg_M_falses_19 (X : zv_X) (l0 : Nat) (l1 l2 l3 : Int32) (M : zv_M) : Option zv_R := zR X (186, 19, [some (.ref l0), some (.int l1), some (.int l2), some (.int l3), none, none, none], [], M)
noncomputable def zg_M_falses_38 (X : zv_X) (l0 : Nat) (l1 l2 l3 l4 l5 l6 : Int32) (M : zv_M) : Option zv_R := zR X (186, 38, [some (.ref l0), some (.int l1), some (.int l2), some (.int l3), some (.int l4), some (.int l5), some (.int l6)], [], M)
noncomputable def zg_M_falses_77 (X : zv_X) (l0 : Nat) (l1 l2 l3 l4 l6 s0 : Int32) (M : zv_M) : Option zv_R := zR X (186, 77, [some (.ref l0), some (.int l1), some (.int l2), some (.int l3), some (.int l4), none, some (.int l6)], [.int s0], M)
noncomputable def zg_M_falses_78 (X : zv_X) (l0 : Nat) (l1 l2 l3 l4 l6 s0 s1 : Int32) (M : zv_M) : Option zv_R := zR X (186, 78, [some (.ref l0), some (.int l1), some (.int l2), some (.int l3), some (.int l4), none, some (.int l6)], [.int s0, .int s1], M)
noncomputable def zg_M_falses_87 (X : zv_X) (l5 : Int32) (M : zv_M) : Option zv_R := zR X (186, 87, [none, none, none, none, none, some (.int l5), none], [], M)
noncomputable def zg_M_point_0 (X : zv_X) (l0 : Nat) (l1 l2 : Int32) (M : zv_M) : Option zv_R := zR X (187, 0, [some (.ref l0), some (.int l1), some (.int l2)], [], M)
noncomputable def zg_M_point_32 (X : zv_X) (M : zv_M) : Option zv_R := zR X (187, 32, [none, none, none], [], M)
noncomputable def zg_M_point_34 (X : zv_X) (l0 : Nat) (l1 l2 : Int32) (M : zv_M) : Option zv_R := zR X (187, 34, [some (.ref l0), some (.int l1), some (.int l2)], [], M)
noncomputable def zg_M_box_0 (X : zv_X) (l0 : Nat) (l1 l2 l3 l4 : Int32) (M : zv_M) : Option zv_R := zR X (188, 0, [some (.ref l0), some (.int l1), some (.int l2), some (.int l3), some (.int l4), none], [], M)
noncomputable def zg_M_box_44 (X : zv_X) (M : zv_M) : Option zv_R := zR X (188, 44, [none, none, none, none, none, none], [], M)
noncomputable def zg_M_box_46 (X : zv_X) (l0 : Nat) (l1 l2 l3 l4 : Int32) (M : zv_M) : Option zv_R := zR X (188, 46, [some (.ref l0), some (.int l1), some (.int l2), some (.int l3), some (.int l4), none], [], M)
noncomputable def zg_M_numberBy_0 (X : zv_X) (l0 l1 l2 : Int32) (M : zv_M) : Option zv_R := zR X (189, 0, [some (.int l0), some (.int l1), some (.int l2), none, none], [], M)
noncomputable def zg_M_numberBy_11 (X : zv_X) (l0 l1 l2 : Int32) (M : zv_M) : Option zv_R := zR X (189, 11, [some (.int l0), some (.int l1), some (.int l2), none, none], [], M)
noncomputable def zg_M_numberBy_34 (X : zv_X) (l1 s0 : Int32) (M : zv_M) : Option zv_R := zR X (189, 34, [none, some (.int l1), none, none, none], [.int s0], M)
noncomputable def zg_M_numberBy_35 (X : zv_X) (s0 s1 : Int32) (M : zv_M) : Option zv_R := zR X (189, 35, [none, none, none, none, none], [.int s0, .int s1], M)
noncomputable def zg_M_numberBy_37 (X : zv_X) (l1 l2 : Int32) (M : zv_M) : Option zv_R := zR X (189, 37, [none, some (.int l1), some (.int l2), none, none], [], M)
noncomputable def zg_M_numberBy_42 (X : zv_X) (l1 l2 l3 l4 : Int32) (M : zv_M) : Option zv_R := zR X (189, 42, [none, some (.int l1), some (.int l2), some (.int l3), some (.int l4)], [], M)
noncomputable def zg_M_numberBy_82 (X : zv_X) (l3 : Int32) (M : zv_M) : Option zv_R := zR X (189, 82, [none, none, none, some (.int l3), none], [], M)
noncomputable def zg_M_read_0 (X : zv_X) (l0 : Nat) (l1 l2 : Int32) (M : zv_M) : Option zv_R := zR X (190, 0, [some (.ref l0), some (.int l1), some (.int l2), none, none, none, none, none, none], [], M)
noncomputable def zg_M_read_24 (X : zv_X) (l0 : Nat) (l2 l3 l4 l5 l6 : Int32) (M : zv_M) : Option zv_R := zR X (190, 24, [some (.ref l0), none, some (.int l2), some (.int l3), some (.int l4), some (.int l5), some (.int l6), none, none], [], M)
noncomputable def zg_M_read_47 (X : zv_X) (l0 : Nat) (l2 l3 l4 l5 l6 l7 : Int32) (M : zv_M) : Option zv_R := zR X (190, 47, [some (.ref l0), none, some (.int l2), some (.int l3), some (.int l4), some (.int l5), some (.int l6), some (.int l7), none], [], M)
noncomputable def zg_M_read_82 (X : zv_X) (l0 : Nat) (l2 l3 l4 l5 l6 l7 l8 : Int32) (M : zv_M) : Option zv_R := zR X (190, 82, [some (.ref l0), none, some (.int l2), some (.int l3), some (.int l4), some (.int l5), some (.int l6), some (.int l7), some (.int l8)], [], M)
noncomputable def zg_M_read_84 (X : zv_X) (l0 : Nat) (l2 l3 l5 l6 l7 l8 s0 : Int32) (M : zv_M) : Option zv_R := zR X (190, 84, [some (.ref l0), none, some (.int l2), some (.int l3), none, some (.int l5), some (.int l6), some (.int l7), some (.int l8)], [.int s0], M)
noncomputable def zg_M_read_98 (X : zv_X) (l0 : Nat) (l2 l3 l4 l5 l6 l7 : Int32) (M : zv_M) : Option zv_R := zR X (190, 98, [some (.ref l0), none, some (.int l2), some (.int l3), some (.int l4), some (.int l5), some (.int l6), some (.int l7), none], [], M)
noncomputable def zg_M_read_100 (X : zv_X) (l0 : Nat) (l2 l3 l4 l6 l7 s0 : Int32) (M : zv_M) : Option zv_R := zR X (190, 100, [some (.ref l0), none, some (.int l2), some (.int l3), some (.int l4), none, some (.int l6), some (.int l7), none], [.int s0], M)
noncomputable def zg_M_read_108 (X : zv_X) (l0 : Nat) (l2 l3 l4 l5 l6 : Int32) (M : zv_M) : Option zv_R := zR X (190, 108, [some (.ref l0), none, some (.int l2), some (.int l3), some (.int l4), some (.int l5), some (.int l6), none, none], [], M)
noncomputable def zg_M_read_114 (X : zv_X) (l0 : Nat) (l2 l4 l5 : Int32) (M : zv_M) : Option zv_R := zR X (190, 114, [some (.ref l0), none, some (.int l2), none, some (.int l4), some (.int l5), none, none, none], [], M)
noncomputable def zg_M_read_120 (X : zv_X) (l0 : Nat) (l2 l4 l5 l6 l7 : Int32) (M : zv_M) : Option zv_R := zR X (190, 120, [some (.ref l0), none, some (.int l2), none, some (.int l4), some (.int l5), some (.int l6), some (.int l7), none], [], M)
noncomputable def zg_M_read_180 (X : zv_X) (l0 : Nat) (l2 l4 l5 l7 s0 : Int32) (M : zv_M) : Option zv_R := zR X (190, 180, [some (.ref l0), none, some (.int l2), none, some (.int l4), some (.int l5), none, some (.int l7), none], [.int s0], M)
noncomputable def zg_M_read_181 (X : zv_X) (l0 : Nat) (l2 l4 l5 l7 s0 s1 : Int32) (M : zv_M) : Option zv_R := zR X (190, 181, [some (.ref l0), none, some (.int l2), none, some (.int l4), some (.int l5), none, some (.int l7), none], [.int s0, .int s1], M)
noncomputable def zg_M_read_190 (X : zv_X) (l6 : Int32) (M : zv_M) : Option zv_R := zR X (190, 190, [none, none, none, none, none, none, some (.int l6), none, none], [], M)
noncomputable def zg_M_boxed_0 (X : zv_X) (l0 : Nat) (l1 l2 : Int32) (M : zv_M) : Option zv_R := zR X (191, 0, [some (.ref l0), some (.int l1), some (.int l2), none, none, none], [], M)
noncomputable def zg_M_boxed_26 (X : zv_X) (M : zv_M) : Option zv_R := zR X (191, 26, [none, none, none, none, none, none], [], M)
noncomputable def zg_M_boxed_28 (X : zv_X) (l0 : Nat) (l1 l2 : Int32) (M : zv_M) : Option zv_R := zR X (191, 28, [some (.ref l0), some (.int l1), some (.int l2), none, none, none], [], M)
noncomputable def zg_M_boxed_41 (X : zv_X) (l0 : Nat) (l1 : Int32) (M : zv_M) : Option zv_R := zR X (191, 41, [some (.ref l0), some (.int l1), none, none, none, none], [], M)
noncomputable def zg_M_boxed_55 (X : zv_X) (l0 : Nat) (l3 l4 l5 : Int32) (M : zv_M) : Option zv_R := zR X (191, 55, [some (.ref l0), none, none, some (.int l3), some (.int l4), some (.int l5)], [], M)
noncomputable def zg_M_boxed_143 (X : zv_X) (l0 : Nat) (l3 l5 s0 : Int32) (M : zv_M) : Option zv_R := zR X (191, 143, [some (.ref l0), none, none, some (.int l3), none, some (.int l5)], [.int s0], M)
noncomputable def zg_M_boxed_144 (X : zv_X) (l0 : Nat) (l3 l5 s0 s1 : Int32) (M : zv_M) : Option zv_R := zR X (191, 144, [some (.ref l0), none, none, some (.int l3), none, some (.int l5)], [.int s0, .int s1], M)
noncomputable def zg_M_boxed_153 (X : zv_X) (l4 : Int32) (M : zv_M) : Option zv_R := zR X (191, 153, [none, none, none, none, some (.int l4), none], [], M)
noncomputable def zg_M_bestOrder_0 (X : zv_X) (l0 : Nat) (M : zv_M) : Option zv_R := zR X (192, 0, [some (.ref l0), none, none, none, none, none], [], M)
noncomputable def zg_M_bestOrder_6 (X : zv_X) (l0 : Nat) (l1 l2 l3 : Int32) (M : zv_M) : Option zv_R := zR X (192, 6, [some (.ref l0), some (.int l1), some (.int l2), some (.int l3), none, none], [], M)
noncomputable def zg_M_bestOrder_17 (X : zv_X) (l0 : Nat) (l1 l2 l3 l4 l5 : Int32) (M : zv_M) : Option zv_R := zR X (192, 17, [some (.ref l0), some (.int l1), some (.int l2), some (.int l3), some (.int l4), some (.int l5)], [], M)
noncomputable def zg_M_bestOrder_47 (X : zv_X) (l0 : Nat) (l1 l2 l3 l4 : Int32) (M : zv_M) : Option zv_R := zR X (192, 47, [some (.ref l0), some (.int l1), some (.int l2), some (.int l3), some (.int l4), none], [], M)
noncomputable def zg_M_bestOrder_61 (X : zv_X) (l0 : Nat) (l3 l4 : Int32) (M : zv_M) : Option zv_R := zR X (192, 61, [some (.ref l0), none, none, some (.int l3), some (.int l4), none], [], M)
noncomputable def zg_M_bestOrder_66 (X : zv_X) (l0 : Nat) (l1 l2 l3 : Int32) (M : zv_M) : Option zv_R := zR X (192, 66, [some (.ref l0), some (.int l1), some (.int l2), some (.int l3), none, none], [], M)
noncomputable def zg_M_bestOrder_72 (X : zv_X) (l1 : Int32) (M : zv_M) : Option zv_R := zR X (192, 72, [none, some (.int l1), none, none, none, none], [], M)
noncomputable def zg_M_image_0 (X : zv_X) (l0 : Nat) (l1 : Int32) (M : zv_M) : Option zv_R := zR X (193, 0, [some (.ref l0), some (.int l1), none], [], M)
noncomputable def zg_M_image_13 (X : zv_X) (l0 : Nat) (l1 : Int32) (M : zv_M) : Option zv_R := zR X (193, 13, [some (.ref l0), some (.int l1), none], [], M)
noncomputable def zg_M_image_15 (X : zv_X) (l0 : Nat) (l1 l2 : Int32) (M : zv_M) : Option zv_R := zR X (193, 15, [some (.ref l0), some (.int l1), some (.int l2)], [], M)
noncomputable def zg_M_image_41 (X : zv_X) (l0 : Nat) (l1 l2 : Int32) (M : zv_M) : Option zv_R := zR X (193, 41, [some (.ref l0), some (.int l1), some (.int l2)], [], M)
noncomputable def zg_M_image_53 (X : zv_X) (l0 : Nat) (l1 l2 : Int32) (M : zv_M) : Option zv_R := zR X (193, 53, [some (.ref l0), some (.int l1), some (.int l2)], [], M)
noncomputable def zg_M_image_59 (X : zv_X) (l0 : Nat) (M : zv_M) : Option zv_R := zR X (193, 59, [some (.ref l0), none, none], [], M)
noncomputable def zg_M_look_0 (X : zv_X) (l0 : Nat) (l1 : Int32) (M : zv_M) : Option zv_R := zR X (194, 0, [some (.ref l0), some (.int l1)], [], M)
noncomputable def zg_M_look_56 (X : zv_X) (l0 : Nat) (M : zv_M) : Option zv_R := zR X (194, 56, [some (.ref l0), none], [], M)
noncomputable def zg_M_look_61 (X : zv_X) (l0 : Nat) (M : zv_M) : Option zv_R := zR X (194, 61, [some (.ref l0), none], [], M)
noncomputable def zg_M_look_69 (X : zv_X) (l0 : Nat) (M : zv_M) : Option zv_R := zR X (194, 69, [some (.ref l0), none], [], M)
noncomputable def zg_M_look_77 (X : zv_X) (l0 : Nat) (M : zv_M) : Option zv_R := zR X (194, 77, [some (.ref l0), none], [], M)
noncomputable def zg_M_look_82 (X : zv_X) (l0 : Nat) (M : zv_M) : Option zv_R := zR X (194, 82, [some (.ref l0), none], [], M)
noncomputable def zg_M_look_90 (X : zv_X) (l0 : Nat) (M : zv_M) : Option zv_R := zR X (194, 90, [some (.ref l0), none], [], M)
noncomputable def zg_M_look_98 (X : zv_X) (l0 : Nat) (M : zv_M) : Option zv_R := zR X (194, 98, [some (.ref l0), none], [], M)
noncomputable def zg_M_look_106 (X : zv_X) (l0 : Nat) (M : zv_M) : Option zv_R := zR X (194, 106, [some (.ref l0), none], [], M)
noncomputable def zg_M_look_114 (X : zv_X) (l0 : Nat) (M : zv_M) : Option zv_R := zR X (194, 114, [some (.ref l0), none], [], M)
noncomputable def zg_M_look_122 (X : zv_X) (l0 : Nat) (l1 : Int32) (M : zv_M) : Option zv_R := zR X (194, 122, [some (.ref l0), some (.int l1)], [], M)
noncomputable def zg_M_look_143 (X : zv_X) (l0 : Nat) (l1 : Int32) (M : zv_M) : Option zv_R := zR X (194, 143, [some (.ref l0), some (.int l1)], [], M)
noncomputable def zg_M_look_161 (X : zv_X) (l0 : Nat) (l1 : Int32) (M : zv_M) : Option zv_R := zR X (194, 161, [some (.ref l0), some (.int l1)], [], M)
noncomputable def zg_M_look_183 (X : zv_X) (l0 : Nat) (l1 : Int32) (M : zv_M) : Option zv_R := zR X (194, 183, [some (.ref l0), some (.int l1)], [], M)
noncomputable def zg_M_look_212 (X : zv_X) (M : zv_M) : Option zv_R := zR X (194, 212, [none, none], [], M)
noncomputable def zg_M_look_213 (X : zv_X) (s0 : Int32) (M : zv_M) : Option zv_R := zR X (194, 213, [none, none], [.int s0], M)
noncomputable def zg_Math_floorDiv_0 (X : zv_X) (l0 l2 : Int64) (M : zv_M) : Option zv_R := zR X (195, 0, [some (.long l0), none, some (.long l2), none, none, none], [], M)
noncomputable def zg_Math_floorDiv_27 (X : zv_X) (l4 : Int64) (M : zv_M) : Option zv_R := zR X (195, 27, [none, none, none, none, some (.long l4), none], [], M)
noncomputable def zg_Math_abs_0 (X : zv_X) (l0 : Int32) (M : zv_M) : Option zv_R := zR X (196, 0, [some (.int l0)], [], M)
noncomputable def zg_Math_abs_9 (X : zv_X) (l0 : Int32) (M : zv_M) : Option zv_R := zR X (196, 9, [some (.int l0)], [], M)
noncomputable def zg_Math_abs_10 (X : zv_X) (s0 : Int32) (M : zv_M) : Option zv_R := zR X (196, 10, [none], [.int s0], M)
noncomputable def zg_Math_max0_0 (X : zv_X) (l0 l1 : Int32) (M : zv_M) : Option zv_R := zR X (197, 0, [some (.int l0), some (.int l1)], [], M)
noncomputable def zg_Math_max0_9 (X : zv_X) (l1 : Int32) (M : zv_M) : Option zv_R := zR X (197, 9, [none, some (.int l1)], [], M)
noncomputable def zg_Math_max0_10 (X : zv_X) (s0 : Int32) (M : zv_M) : Option zv_R := zR X (197, 10, [none, none], [.int s0], M)
noncomputable def zg_Math_max1_0 (X : zv_X) (l0 l2 : Int64) (M : zv_M) : Option zv_R := zR X (198, 0, [some (.long l0), none, some (.long l2), none], [], M)
noncomputable def zg_Math_max1_10 (X : zv_X) (l2 : Int64) (M : zv_M) : Option zv_R := zR X (198, 10, [none, none, some (.long l2), none], [], M)
noncomputable def zg_Math_max1_11 (X : zv_X) (s0 : Int64) (M : zv_M) : Option zv_R := zR X (198, 11, [none, none, none, none], [.long s0], M)
noncomputable def zg_Math_min0_0 (X : zv_X) (l0 l1 : Int32) (M : zv_M) : Option zv_R := zR X (199, 0, [some (.int l0), some (.int l1)], [], M)
noncomputable def zg_Math_min0_9 (X : zv_X) (l1 : Int32) (M : zv_M) : Option zv_R := zR X (199, 9, [none, some (.int l1)], [], M)
noncomputable def zg_Math_min0_10 (X : zv_X) (s0 : Int32) (M : zv_M) : Option zv_R := zR X (199, 10, [none, none], [.int s0], M)
noncomputable def zg_Math_min1_0 (X : zv_X) (l0 l2 : Int64) (M : zv_M) : Option zv_R := zR X (200, 0, [some (.long l0), none, some (.long l2), none], [], M)
noncomputable def zg_Math_min1_10 (X : zv_X) (l2 : Int64) (M : zv_M) : Option zv_R := zR X (200, 10, [none, none, some (.long l2), none], [], M)
noncomputable def zg_Math_min1_11 (X : zv_X) (s0 : Int64) (M : zv_M) : Option zv_R := zR X (200, 11, [none, none, none, none], [.long s0], M)
noncomputable def zg_Str_length_0 (X : zv_X) (l0 : Nat) (M : zv_M) : Option zv_R := zR X (201, 0, [some (.retAddr l0)], [], M)
noncomputable def zg_Str_charAt_0 (X : zv_X) (l0 : Nat) (l1 : Int32) (M : zv_M) : Option zv_R := zR X (202, 0, [some (.retAddr l0), some (.int l1)], [], M)
noncomputable def zg_Str_charAt_16 (X : zv_X) (l0 : Nat) (l1 : Int32) (M : zv_M) : Option zv_R := zR X (202, 16, [some (.retAddr l0), some (.int l1)], [], M)
noncomputable def zg_Str_coder_0 (X : zv_X) (l0 : Nat) (M : zv_M) : Option zv_R := zR X (203, 0, [some (.retAddr l0)], [], M)
noncomputable def zg_Str_coder_13 (X : zv_X) (M : zv_M) : Option zv_R := zR X (203, 13, [none], [], M)
noncomputable def zg_Str_coder_14 (X : zv_X) (s0 : Int32) (M : zv_M) : Option zv_R := zR X (203, 14, [none], [.int s0], M)
noncomputable def zg_Str_isLatin1_0 (X : zv_X) (l0 : Nat) (M : zv_M) : Option zv_R := zR X (204, 0, [some (.retAddr l0)], [], M)
noncomputable def zg_Str_isLatin1_17 (X : zv_X) (M : zv_M) : Option zv_R := zR X (204, 17, [none], [], M)
noncomputable def zg_Str_isLatin1_18 (X : zv_X) (s0 : Int32) (M : zv_M) : Option zv_R := zR X (204, 18, [none], [.int s0], M)
noncomputable def zg_Str_checkIndex_0 (X : zv_X) (l0 l1 : Int32) (M : zv_M) : Option zv_R := zR X (205, 0, [some (.int l0), some (.int l1)], [], M)
noncomputable def zg_Latin_charAt_0 (X : zv_X) (l0 : Nat) (l1 : Int32) (M : zv_M) : Option zv_R := zR X (206, 0, [some (.retAddr l0), some (.int l1)], [], M)
noncomputable def zg_Arrays_fill_0 (X : zv_X) (l0 : Nat) (l1 : Int32) (M : zv_M) : Option zv_R := zR X (207, 0, [some (.ref l0), some (.int l1), none, none], [], M)
noncomputable def zg_Arrays_fill_5 (X : zv_X) (l0 : Nat) (l1 l2 l3 : Int32) (M : zv_M) : Option zv_R := zR X (207, 5, [some (.ref l0), some (.int l1), some (.int l2), some (.int l3)], [], M)
noncomputable def zg_Arrays_fill_20 (X : zv_X) (M : zv_M) : Option zv_R := zR X (207, 20, [none, none, none, none], [], M)
noncomputable def zg_Pre_checkIndex_0 (X : zv_X) (l0 l1 : Int32) (l2 : Nat) (M : zv_M) : Option zv_R := zR X (208, 0, [some (.int l0), some (.int l1), some (.retAddr l2)], [], M)
noncomputable def zg_Pre_checkIndex_9 (X : zv_X) (l0 l1 : Int32) (l2 : Nat) (M : zv_M) : Option zv_R := zR X (208, 9, [some (.int l0), some (.int l1), some (.retAddr l2)], [], M)
noncomputable def zg_Pre_checkIndex_16 (X : zv_X) (l0 : Int32) (M : zv_M) : Option zv_R := zR X (208, 16, [some (.int l0), none, none], [], M)
noncomputable def zg_Law_law_0 (X : zv_X) (l0 : Nat) (M : zv_M) : Option zv_R := zR X (209, 0, [some (.retAddr l0), none, none, none], [], M)
noncomputable def zg_Law_law_18 (X : zv_X) (l0 l1 l2 : Nat) (l3 : Int32) (M : zv_M) : Option zv_R := zR X (209, 18, [some (.retAddr l0), some (.ref l1), some (.ref l2), some (.int l3)], [], M)
noncomputable def zg_Law_law_172 (X : zv_X) (l0 l1 l2 : Nat) (l3 : Int32) (M : zv_M) : Option zv_R := zR X (209, 172, [some (.retAddr l0), some (.ref l1), some (.ref l2), some (.int l3)], [], M)
noncomputable def zg_Law_law_235 (X : zv_X) (l0 l1 l2 : Nat) (l3 : Int32) (M : zv_M) : Option zv_R := zR X (209, 235, [some (.retAddr l0), some (.ref l1), some (.ref l2), some (.int l3)], [], M)
noncomputable def zg_Law_law_258 (X : zv_X) (l0 l1 l2 : Nat) (l3 : Int32) (M : zv_M) : Option zv_R := zR X (209, 258, [some (.retAddr l0), some (.ref l1), some (.ref l2), some (.int l3)], [], M)
noncomputable def zg_Law_law_271 (X : zv_X) (l0 l1 l2 : Nat) (l3 : Int32) (M : zv_M) : Option zv_R := zR X (209, 271, [some (.retAddr l0), some (.ref l1), some (.ref l2), some (.int l3)], [], M)
noncomputable def zg_Law_law_294 (X : zv_X) (l0 l1 l2 : Nat) (l3 : Int32) (M : zv_M) : Option zv_R := zR X (209, 294, [some (.retAddr l0), some (.ref l1), some (.ref l2), some (.int l3)], [], M)
noncomputable def zg_Law_law_327 (X : zv_X) (l0 l1 l2 : Nat) (l3 : Int32) (M : zv_M) : Option zv_R := zR X (209, 327, [some (.retAddr l0), some (.ref l1), some (.ref l2), some (.int l3)], [], M)
noncomputable def zg_Law_law_350 (X : zv_X) (l0 l1 l2 : Nat) (l3 : Int32) (M : zv_M) : Option zv_R := zR X (209, 350, [some (.retAddr l0), some (.ref l1), some (.ref l2), some (.int l3)], [], M)
noncomputable def zg_Law_law_373 (X : zv_X) (l0 l1 l2 : Nat) (l3 : Int32) (M : zv_M) : Option zv_R := zR X (209, 373, [some (.retAddr l0), some (.ref l1), some (.ref l2), some (.int l3)], [], M)
noncomputable def zg_Law_law_386 (X : zv_X) (l0 l1 l2 : Nat) (l3 : Int32) (s0 : Nat) (M : zv_M) : Option zv_R := zR X (209, 386, [some (.retAddr l0), some (.ref l1), some (.ref l2), some (.int l3)], [.ref s0], M)
noncomputable def zg_Law_law_387 (X : zv_X) (l0 l1 l2 : Nat) (l3 s0 : Int32) (s1 : Nat) (M : zv_M) : Option zv_R := zR X (209, 387, [some (.retAddr l0), some (.ref l1), some (.ref l2), some (.int l3)], [.int s0, .ref s1], M)
noncomputable def zg_Law_law_403 (X : zv_X) (l0 l1 l2 : Nat) (l3 : Int32) (s0 : Nat) (s1 : Int32) (M : zv_M) : Option zv_R := zR X (209, 403, [some (.retAddr l0), some (.ref l1), some (.ref l2), some (.int l3)], [.ref s0, .int s1], M)
noncomputable def zg_Law_law_404 (X : zv_X) (l0 l1 l2 : Nat) (l3 s0 : Int32) (s1 : Nat) (s2 : Int32) (M : zv_M) : Option zv_R := zR X (209, 404, [some (.retAddr l0), some (.ref l1), some (.ref l2), some (.int l3)], [.int s0, .ref s1, .int s2], M)
noncomputable def zg_Law_law_412 (X : zv_X) (l0 l1 l2 : Nat) (l3 : Int32) (M : zv_M) : Option zv_R := zR X (209, 412, [some (.retAddr l0), some (.ref l1), some (.ref l2), some (.int l3)], [], M)
noncomputable def zg_Law_law_425 (X : zv_X) (l0 l1 l2 : Nat) (l3 : Int32) (M : zv_M) : Option zv_R := zR X (209, 425, [some (.retAddr l0), some (.ref l1), some (.ref l2), some (.int l3)], [], M)
noncomputable def zg_Law_law_448 (X : zv_X) (l0 l1 l2 : Nat) (l3 : Int32) (M : zv_M) : Option zv_R := zR X (209, 448, [some (.retAddr l0), some (.ref l1), some (.ref l2), some (.int l3)], [], M)
noncomputable def zg_Law_law_471 (X : zv_X) (l0 l1 l2 : Nat) (l3 : Int32) (M : zv_M) : Option zv_R := zR X (209, 471, [some (.retAddr l0), some (.ref l1), some (.ref l2), some (.int l3)], [], M)
noncomputable def zg_Law_law_494 (X : zv_X) (l0 l1 l2 : Nat) (l3 : Int32) (M : zv_M) : Option zv_R := zR X (209, 494, [some (.retAddr l0), some (.ref l1), some (.ref l2), some (.int l3)], [], M)
noncomputable def zg_Law_law_538 (X : zv_X) (l0 l1 l2 : Nat) (l3 : Int32) (M : zv_M) : Option zv_R := zR X (209, 538, [some (.retAddr l0), some (.ref l1), some (.ref l2), some (.int l3)], [], M)
noncomputable def zg_Law_law_581 (X : zv_X) (l0 l1 l2 : Nat) (l3 : Int32) (M : zv_M) : Option zv_R := zR X (209, 581, [some (.retAddr l0), some (.ref l1), some (.ref l2), some (.int l3)], [], M)
noncomputable def zg_Law_law_624 (X : zv_X) (l0 l1 l2 : Nat) (l3 : Int32) (M : zv_M) : Option zv_R := zR X (209, 624, [some (.retAddr l0), some (.ref l1), some (.ref l2), some (.int l3)], [], M)
noncomputable def zg_Law_law_657 (X : zv_X) (l0 l1 l2 : Nat) (l3 : Int32) (M : zv_M) : Option zv_R := zR X (209, 657, [some (.retAddr l0), some (.ref l1), some (.ref l2), some (.int l3)], [], M)
noncomputable def zg_Law_law_680 (X : zv_X) (l0 l1 l2 : Nat) (l3 : Int32) (M : zv_M) : Option zv_R := zR X (209, 680, [some (.retAddr l0), some (.ref l1), some (.ref l2), some (.int l3)], [], M)
noncomputable def zg_Law_law_713 (X : zv_X) (l0 l1 l2 : Nat) (l3 : Int32) (M : zv_M) : Option zv_R := zR X (209, 713, [some (.retAddr l0), some (.ref l1), some (.ref l2), some (.int l3)], [], M)
noncomputable def zg_Law_law_736 (X : zv_X) (l0 l1 l2 : Nat) (l3 : Int32) (M : zv_M) : Option zv_R := zR X (209, 736, [some (.retAddr l0), some (.ref l1), some (.ref l2), some (.int l3)], [], M)
noncomputable def zg_Law_law_749 (X : zv_X) (l0 l1 l2 : Nat) (l3 : Int32) (M : zv_M) : Option zv_R := zR X (209, 749, [some (.retAddr l0), some (.ref l1), some (.ref l2), some (.int l3)], [], M)
noncomputable def zg_Law_law_772 (X : zv_X) (l0 l1 l2 : Nat) (l3 : Int32) (M : zv_M) : Option zv_R := zR X (209, 772, [some (.retAddr l0), some (.ref l1), some (.ref l2), some (.int l3)], [], M)
noncomputable def zg_Law_law_795 (X : zv_X) (l0 l1 l2 : Nat) (l3 : Int32) (M : zv_M) : Option zv_R := zR X (209, 795, [some (.retAddr l0), some (.ref l1), some (.ref l2), some (.int l3)], [], M)
noncomputable def zg_Law_law_818 (X : zv_X) (l0 l1 l2 : Nat) (l3 : Int32) (M : zv_M) : Option zv_R := zR X (209, 818, [some (.retAddr l0), some (.ref l1), some (.ref l2), some (.int l3)], [], M)
noncomputable def zg_Law_law_836 (X : zv_X) (l0 l1 l2 : Nat) (l3 s0 : Int32) (s1 : Nat) (M : zv_M) : Option zv_R := zR X (209, 836, [some (.retAddr l0), some (.ref l1), some (.ref l2), some (.int l3)], [.int s0, .ref s1], M)
noncomputable def zg_Law_law_837 (X : zv_X) (l0 l1 l2 : Nat) (l3 s0 s1 : Int32) (s2 : Nat) (M : zv_M) : Option zv_R := zR X (209, 837, [some (.retAddr l0), some (.ref l1), some (.ref l2), some (.int l3)], [.int s0, .int s1, .ref s2], M)
noncomputable def zg_Law_law_858 (X : zv_X) (l0 l1 l2 : Nat) (l3 s0 : Int32) (s1 : Nat) (s2 : Int32) (M : zv_M) : Option zv_R := zR X (209, 858, [some (.retAddr l0), some (.ref l1), some (.ref l2), some (.int l3)], [.int s0, .ref s1, .int s2], M)
noncomputable def zg_Law_law_859 (X : zv_X) (l0 l1 l2 : Nat) (l3 s0 s1 : Int32) (s2 : Nat) (s3 : Int32) (M : zv_M) : Option zv_R := zR X (209, 859, [some (.retAddr l0), some (.ref l1), some (.ref l2), some (.int l3)], [.int s0, .int s1, .ref s2, .int s3], M)
noncomputable def zg_Law_law_867 (X : zv_X) (l0 l1 l2 : Nat) (l3 : Int32) (M : zv_M) : Option zv_R := zR X (209, 867, [some (.retAddr l0), some (.ref l1), some (.ref l2), some (.int l3)], [], M)
noncomputable def zg_Law_law_890 (X : zv_X) (l0 l1 l2 : Nat) (l3 s0 s1 : Int32) (s2 : Nat) (M : zv_M) : Option zv_R := zR X (209, 890, [some (.retAddr l0), some (.ref l1), some (.ref l2), some (.int l3)], [.int s0, .int s1, .ref s2], M)
noncomputable def zg_Law_law_891 (X : zv_X) (l0 l1 l2 : Nat) (l3 s0 s1 s2 : Int32) (s3 : Nat) (M : zv_M) : Option zv_R := zR X (209, 891, [some (.retAddr l0), some (.ref l1), some (.ref l2), some (.int l3)], [.int s0, .int s1, .int s2, .ref s3], M)
noncomputable def zg_Law_law_917 (X : zv_X) (l0 l1 l2 : Nat) (l3 s0 s1 : Int32) (s2 : Nat) (s3 : Int32) (M : zv_M) : Option zv_R := zR X (209, 917, [some (.retAddr l0), some (.ref l1), some (.ref l2), some (.int l3)], [.int s0, .int s1, .ref s2, .int s3], M)
noncomputable def zg_Law_law_918 (X : zv_X) (l0 l1 l2 : Nat) (l3 s0 s1 s2 : Int32) (s3 : Nat) (s4 : Int32) (M : zv_M) : Option zv_R := zR X (209, 918, [some (.retAddr l0), some (.ref l1), some (.ref l2), some (.int l3)], [.int s0, .int s1, .int s2, .ref s3, .int s4], M)
noncomputable def zg_Law_law_926 (X : zv_X) (l0 l1 l2 : Nat) (l3 : Int32) (M : zv_M) : Option zv_R := zR X (209, 926, [some (.retAddr l0), some (.ref l1), some (.ref l2), some (.int l3)], [], M)
noncomputable def zg_Law_law_959 (X : zv_X) (l0 l1 l2 : Nat) (l3 : Int32) (M : zv_M) : Option zv_R := zR X (209, 959, [some (.retAddr l0), some (.ref l1), some (.ref l2), some (.int l3)], [], M)
noncomputable def zg_Law_law_1012 (X : zv_X) (l0 l1 l2 : Nat) (l3 : Int32) (M : zv_M) : Option zv_R := zR X (209, 1012, [some (.retAddr l0), some (.ref l1), some (.ref l2), some (.int l3)], [], M)
noncomputable def zg_Law_law_1045 (X : zv_X) (l0 l1 l2 : Nat) (l3 : Int32) (M : zv_M) : Option zv_R := zR X (209, 1045, [some (.retAddr l0), some (.ref l1), some (.ref l2), some (.int l3)], [], M)
noncomputable def zg_Law_law_1058 (X : zv_X) (l0 l1 l2 : Nat) (l3 : Int32) (M : zv_M) : Option zv_R := zR X (209, 1058, [some (.retAddr l0), some (.ref l1), some (.ref l2), some (.int l3)], [], M)
noncomputable def zg_Law_law_1071 (X : zv_X) (l0 l1 l2 : Nat) (l3 : Int32) (s0 : Nat) (M : zv_M) : Option zv_R := zR X (209, 1071, [some (.retAddr l0), some (.ref l1), some (.ref l2), some (.int l3)], [.ref s0], M)
noncomputable def zg_Law_law_1072 (X : zv_X) (l0 l1 l2 : Nat) (l3 s0 : Int32) (s1 : Nat) (M : zv_M) : Option zv_R := zR X (209, 1072, [some (.retAddr l0), some (.ref l1), some (.ref l2), some (.int l3)], [.int s0, .ref s1], M)
noncomputable def zg_Law_law_1088 (X : zv_X) (l0 l1 l2 : Nat) (l3 : Int32) (s0 : Nat) (s1 : Int32) (M : zv_M) : Option zv_R := zR X (209, 1088, [some (.retAddr l0), some (.ref l1), some (.ref l2), some (.int l3)], [.ref s0, .int s1], M)
noncomputable def zg_Law_law_1089 (X : zv_X) (l0 l1 l2 : Nat) (l3 s0 : Int32) (s1 : Nat) (s2 : Int32) (M : zv_M) : Option zv_R := zR X (209, 1089, [some (.retAddr l0), some (.ref l1), some (.ref l2), some (.int l3)], [.int s0, .ref s1, .int s2], M)
noncomputable def zg_Law_law_1097 (X : zv_X) (l0 l1 l2 : Nat) (l3 : Int32) (M : zv_M) : Option zv_R := zR X (209, 1097, [some (.retAddr l0), some (.ref l1), some (.ref l2), some (.int l3)], [], M)
noncomputable def zg_Law_law_1120 (X : zv_X) (l0 l1 l2 : Nat) (l3 : Int32) (M : zv_M) : Option zv_R := zR X (209, 1120, [some (.retAddr l0), some (.ref l1), some (.ref l2), some (.int l3)], [], M)
noncomputable def zg_Law_law_1126 (X : zv_X) (M : zv_M) : Option zv_R := zR X (209, 1126, [none, none, none, none], [], M)
end
section
set_option maxRecDepth 50000 in
theorem zg_Plane_readBy_10_e (X : zv_X) (l0 : Nat) (l1 l2 l3 l4 l5 : Int32) (M : zv_M) : zg_Plane_readBy_10 X l0 l1 l2 l3 l4 l5 M = if 4 ≤ l5 then zg_Plane_readBy_86 X l0 l2 l3 l4 M else zv_ob M 6 l0 (zv_rf (M.2.2.2 l0 3) (fun p1 => if (2 : Int32) = 0 then none else zv_ix M 0 p1 ((4 * l1) + (2 * (l5 - l5 / 2 * 2))) (fun j2 => zv_ob M 6 l0 (zv_rf (M.2.2.2 l0 3) (fun p3 => if (2 : Int32) = 0 then none else zv_ix M 0 p3 (((4 * l1) + 1) + (2 * (l5 / 2))) (fun j4 => zv_ci (zg_Plane_number_0 X l2 (M.2.1 p1 j2) (M.2.1 p3 j4) M) (fun v6 M5 => zv_ci (zg_Math_min0_0 X l3 v6 M5) (fun v8 M7 => zv_ci (zg_Plane_number_0 X l2 (M.2.1 p1 j2) (M.2.1 p3 j4) M7) (fun v10 M9 => zv_ci (zg_Math_max0_0 X l4 v10 M9) (fun v12 M11 => zg_Plane_readBy_10 X l0 l1 l2 v8 v12 (l5 + 1) M11)))))))))) := (zR_step X _).trans rfl
end

-- ===== PART A: goes FIRST, ahead of the names: the tables' words, and 'selects' of the private methods out of them =====
/-- a private method of a class that the tables say can be made, by its rows of tables_1 -/
def lw_okq (q : MethodName × Nat) : Prop := (q.1.cls ≠ "java/lang/invoke/MethodHandle" ∧ q.1.cls ≠ "java/lang/invoke/VarHandle") ∧ Cond.instantiable q.1.cls q.2 ∈ tables_1 ∧ Cond.privateMethod q.1 ∈ tables_1 ∧ Cond.instanceMethod q.1 ∈ tables_1
theorem lw_p0 : lw_okq (⟨"SingingSaw$Blade", "readLine", "(LSingingSaw$Tokens;)V"⟩, 7) := ⟨⟨by decide +kernel, by decide +kernel⟩, List.mem_of_getElem? (i := 86) (by decide +kernel), List.mem_of_getElem? (i := 471) (by decide +kernel), List.mem_of_getElem? (i := 472) (by decide +kernel)⟩
theorem lw_p1 : lw_okq (⟨"SingingSaw$Blade", "readPieces", "(LSingingSaw$Tokens;)V"⟩, 7) := ⟨⟨by decide +kernel, by decide +kernel⟩, List.mem_of_getElem? (i := 86) (by decide +kernel), List.mem_of_getElem? (i := 532) (by decide +kernel), List.mem_of_getElem? (i := 533) (by decide +kernel)⟩
theorem lw_p2 : lw_okq (⟨"SingingSaw", "closeText", "(I)I"⟩, 19) := ⟨⟨by decide +kernel, by decide +kernel⟩, List.mem_of_getElem? (i := 24) (by decide +kernel), List.mem_of_getElem? (i := 575) (by decide +kernel), List.mem_of_getElem? (i := 576) (by decide +kernel)⟩
theorem lw_p3 : lw_okq (⟨"SingingSaw", "forgetAnswers", "()V"⟩, 19) := ⟨⟨by decide +kernel, by decide +kernel⟩, List.mem_of_getElem? (i := 24) (by decide +kernel), List.mem_of_getElem? (i := 579) (by decide +kernel), List.mem_of_getElem? (i := 580) (by decide +kernel)⟩
theorem lw_p4 : lw_okq (⟨"SingingSaw$Blade", "stiffness", "(I)I"⟩, 7) := ⟨⟨by decide +kernel, by decide +kernel⟩, List.mem_of_getElem? (i := 86) (by decide +kernel), List.mem_of_getElem? (i := 604) (by decide +kernel), List.mem_of_getElem? (i := 605) (by decide +kernel)⟩
theorem lw_p5 : lw_okq (⟨"SingingSaw$Bent", "isPlace", "(I)Z"⟩, 11) := ⟨⟨by decide +kernel, by decide +kernel⟩, List.mem_of_getElem? (i := 238) (by decide +kernel), List.mem_of_getElem? (i := 625) (by decide +kernel), List.mem_of_getElem? (i := 626) (by decide +kernel)⟩
theorem lw_p6 : lw_okq (⟨"SingingSaw$Bent", "leastTone", "(III)I"⟩, 11) := ⟨⟨by decide +kernel, by decide +kernel⟩, List.mem_of_getElem? (i := 238) (by decide +kernel), List.mem_of_getElem? (i := 650) (by decide +kernel), List.mem_of_getElem? (i := 651) (by decide +kernel)⟩
theorem lw_p7 : lw_okq (⟨"SingingSaw$Bent", "enoughAlone", "(II)I"⟩, 11) := ⟨⟨by decide +kernel, by decide +kernel⟩, List.mem_of_getElem? (i := 238) (by decide +kernel), List.mem_of_getElem? (i := 654) (by decide +kernel), List.mem_of_getElem? (i := 655) (by decide +kernel)⟩
theorem lw_p8 : lw_okq (⟨"SingingSaw$Bent", "reaches", "(III)Z"⟩, 11) := ⟨⟨by decide +kernel, by decide +kernel⟩, List.mem_of_getElem? (i := 238) (by decide +kernel), List.mem_of_getElem? (i := 662) (by decide +kernel), List.mem_of_getElem? (i := 663) (by decide +kernel)⟩
theorem lw_p9 : lw_okq (⟨"SingingSaw$Bent", "firstOfRun", "(II)I"⟩, 11) := ⟨⟨by decide +kernel, by decide +kernel⟩, List.mem_of_getElem? (i := 238) (by decide +kernel), List.mem_of_getElem? (i := 666) (by decide +kernel), List.mem_of_getElem? (i := 667) (by decide +kernel)⟩
theorem lw_p10 : lw_okq (⟨"SingingSaw$Bent", "lastOfRun", "(II)I"⟩, 11) := ⟨⟨by decide +kernel, by decide +kernel⟩, List.mem_of_getElem? (i := 238) (by decide +kernel), List.mem_of_getElem? (i := 670) (by decide +kernel), List.mem_of_getElem? (i := 671) (by decide +kernel)⟩
theorem lw_p11 : lw_okq (⟨"SingingSaw$Bent", "isTwice", "(II)Z"⟩, 11) := ⟨⟨by decide +kernel, by decide +kernel⟩, List.mem_of_getElem? (i := 238) (by decide +kernel), List.mem_of_getElem? (i := 674) (by decide +kernel), List.mem_of_getElem? (i := 675) (by decide +kernel)⟩
theorem lw_p12 : lw_okq (⟨"SingingSaw$Bent", "rings", "(III)I"⟩, 11) := ⟨⟨by decide +kernel, by decide +kernel⟩, List.mem_of_getElem? (i := 238) (by decide +kernel), List.mem_of_getElem? (i := 678) (by decide +kernel), List.mem_of_getElem? (i := 679) (by decide +kernel)⟩
theorem lw_p13 : lw_okq (⟨"SingingSaw$Bent", "tellStrengths", "(LSingingSaw$Tone;)V"⟩, 11) := ⟨⟨by decide +kernel, by decide +kernel⟩, List.mem_of_getElem? (i := 238) (by decide +kernel), List.mem_of_getElem? (i := 682) (by decide +kernel), List.mem_of_getElem? (i := 683) (by decide +kernel)⟩
theorem lw_p14 : lw_okq (⟨"SingingSaw$Hand", "readMove", "(LSingingSaw$Tokens;)V"⟩, 5) := ⟨⟨by decide +kernel, by decide +kernel⟩, List.mem_of_getElem? (i := 121) (by decide +kernel), List.mem_of_getElem? (i := 711) (by decide +kernel), List.mem_of_getElem? (i := 712) (by decide +kernel)⟩
theorem lw_p15 : lw_okq (⟨"SingingSaw$Hand", "readTicks", "(LSingingSaw$Tokens;)I"⟩, 5) := ⟨⟨by decide +kernel, by decide +kernel⟩, List.mem_of_getElem? (i := 121) (by decide +kernel), List.mem_of_getElem? (i := 727) (by decide +kernel), List.mem_of_getElem? (i := 728) (by decide +kernel)⟩
def lw_privs_1 : List (MethodName × Nat) := [(⟨"SingingSaw$Blade", "readLine", "(LSingingSaw$Tokens;)V"⟩, 7), (⟨"SingingSaw$Blade", "readPieces", "(LSingingSaw$Tokens;)V"⟩, 7), (⟨"SingingSaw", "closeText", "(I)I"⟩, 19), (⟨"SingingSaw", "forgetAnswers", "()V"⟩, 19), (⟨"SingingSaw$Blade", "stiffness", "(I)I"⟩, 7), (⟨"SingingSaw$Bent", "isPlace", "(I)Z"⟩, 11), (⟨"SingingSaw$Bent", "leastTone", "(III)I"⟩, 11), (⟨"SingingSaw$Bent", "enoughAlone", "(II)I"⟩, 11), (⟨"SingingSaw$Bent", "reaches", "(III)Z"⟩, 11), (⟨"SingingSaw$Bent", "firstOfRun", "(II)I"⟩, 11), (⟨"SingingSaw$Bent", "lastOfRun", "(II)I"⟩, 11), (⟨"SingingSaw$Bent", "isTwice", "(II)Z"⟩, 11), (⟨"SingingSaw$Bent", "rings", "(III)I"⟩, 11), (⟨"SingingSaw$Bent", "tellStrengths", "(LSingingSaw$Tone;)V"⟩, 11), (⟨"SingingSaw$Hand", "readMove", "(LSingingSaw$Tokens;)V"⟩, 5), (⟨"SingingSaw$Hand", "readTicks", "(LSingingSaw$Tokens;)I"⟩, 5)]
theorem lw_r1 : ∀ q ∈ lw_privs_1, lw_okq q := List.forall_mem_cons.mpr ⟨lw_p0, List.forall_mem_cons.mpr ⟨lw_p1, List.forall_mem_cons.mpr ⟨lw_p2, List.forall_mem_cons.mpr ⟨lw_p3, List.forall_mem_cons.mpr ⟨lw_p4, List.forall_mem_cons.mpr ⟨lw_p5, List.forall_mem_cons.mpr ⟨lw_p6, List.forall_mem_cons.mpr ⟨lw_p7, List.forall_mem_cons.mpr ⟨lw_p8, List.forall_mem_cons.mpr ⟨lw_p9, List.forall_mem_cons.mpr ⟨lw_p10, List.forall_mem_cons.mpr ⟨lw_p11, List.forall_mem_cons.mpr ⟨lw_p12, List.forall_mem_cons.mpr ⟨lw_p13, List.forall_mem_cons.mpr ⟨lw_p14, List.forall_mem_cons.mpr ⟨lw_p15, fun _ h => absurd h List.not_mem_nil⟩⟩⟩⟩⟩⟩⟩⟩⟩⟩⟩⟩⟩⟩⟩⟩
theorem lw_p16 : lw_okq (⟨"SingingSaw$Hand", "move", "(III)V"⟩, 5) := ⟨⟨by decide +kernel, by decide +kernel⟩, List.mem_of_getElem? (i := 121) (by decide +kernel), List.mem_of_getElem? (i := 731) (by decide +kernel), List.mem_of_getElem? (i := 732) (by decide +kernel)⟩
theorem lw_p17 : lw_okq (⟨"SingingSaw$Hand", "pass", "(II)V"⟩, 5) := ⟨⟨by decide +kernel, by decide +kernel⟩, List.mem_of_getElem? (i := 121) (by decide +kernel), List.mem_of_getElem? (i := 735) (by decide +kernel), List.mem_of_getElem? (i := 736) (by decide +kernel)⟩
theorem lw_p18 : lw_okq (⟨"SingingSaw$Hand", "shake", "(II)V"⟩, 5) := ⟨⟨by decide +kernel, by decide +kernel⟩, List.mem_of_getElem? (i := 121) (by decide +kernel), List.mem_of_getElem? (i := 740) (by decide +kernel), List.mem_of_getElem? (i := 741) (by decide +kernel)⟩
theorem lw_p19 : lw_okq (⟨"SingingSaw", "hearBook", "()V"⟩, 19) := ⟨⟨by decide +kernel, by decide +kernel⟩, List.mem_of_getElem? (i := 24) (by decide +kernel), List.mem_of_getElem? (i := 761) (by decide +kernel), List.mem_of_getElem? (i := 762) (by decide +kernel)⟩
theorem lw_p20 : lw_okq (⟨"SingingSaw", "listenTo", "(LSingingSaw$Blade;II)V"⟩, 19) := ⟨⟨by decide +kernel, by decide +kernel⟩, List.mem_of_getElem? (i := 24) (by decide +kernel), List.mem_of_getElem? (i := 766) (by decide +kernel), List.mem_of_getElem? (i := 767) (by decide +kernel)⟩
theorem lw_p21 : lw_okq (⟨"SingingSaw$Bent", "mostKept", "(I)I"⟩, 11) := ⟨⟨by decide +kernel, by decide +kernel⟩, List.mem_of_getElem? (i := 238) (by decide +kernel), List.mem_of_getElem? (i := 774) (by decide +kernel), List.mem_of_getElem? (i := 775) (by decide +kernel)⟩
theorem lw_p22 : lw_okq (⟨"SingingSaw$Song", "costFrom", "(LSingingSaw$Book;II)I"⟩, 3) := ⟨⟨by decide +kernel, by decide +kernel⟩, List.mem_of_getElem? (i := 336) (by decide +kernel), List.mem_of_getElem? (i := 813) (by decide +kernel), List.mem_of_getElem? (i := 814) (by decide +kernel)⟩
theorem lw_p23 : lw_okq (⟨"SingingSaw$Song", "cheapestNext", "(LSingingSaw$Book;II)I"⟩, 3) := ⟨⟨by decide +kernel, by decide +kernel⟩, List.mem_of_getElem? (i := 336) (by decide +kernel), List.mem_of_getElem? (i := 817) (by decide +kernel), List.mem_of_getElem? (i := 818) (by decide +kernel)⟩
theorem lw_p24 : lw_okq (⟨"SingingSaw$Song", "costAt", "(II)I"⟩, 3) := ⟨⟨by decide +kernel, by decide +kernel⟩, List.mem_of_getElem? (i := 336) (by decide +kernel), List.mem_of_getElem? (i := 821) (by decide +kernel), List.mem_of_getElem? (i := 822) (by decide +kernel)⟩
theorem lw_p25 : lw_okq (⟨"SingingSaw$Song", "setCost", "(III)V"⟩, 3) := ⟨⟨by decide +kernel, by decide +kernel⟩, List.mem_of_getElem? (i := 336) (by decide +kernel), List.mem_of_getElem? (i := 831) (by decide +kernel), List.mem_of_getElem? (i := 832) (by decide +kernel)⟩
theorem lw_p26 : lw_okq (⟨"SingingSaw", "hearParts", "(II)V"⟩, 19) := ⟨⟨by decide +kernel, by decide +kernel⟩, List.mem_of_getElem? (i := 24) (by decide +kernel), List.mem_of_getElem? (i := 853) (by decide +kernel), List.mem_of_getElem? (i := 854) (by decide +kernel)⟩
theorem lw_p27 : lw_okq (⟨"SingingSaw", "nearestPart", "(I)I"⟩, 19) := ⟨⟨by decide +kernel, by decide +kernel⟩, List.mem_of_getElem? (i := 24) (by decide +kernel), List.mem_of_getElem? (i := 857) (by decide +kernel), List.mem_of_getElem? (i := 858) (by decide +kernel)⟩
theorem lw_p28 : lw_okq (⟨"SingingSaw", "tellsTones", "()Z"⟩, 19) := ⟨⟨by decide +kernel, by decide +kernel⟩, List.mem_of_getElem? (i := 24) (by decide +kernel), List.mem_of_getElem? (i := 882) (by decide +kernel), List.mem_of_getElem? (i := 883) (by decide +kernel)⟩
theorem lw_p29 : lw_okq (⟨"SingingSaw", "isFitting", "(LSingingSaw$Blade;I)Z"⟩, 19) := ⟨⟨by decide +kernel, by decide +kernel⟩, List.mem_of_getElem? (i := 24) (by decide +kernel), List.mem_of_getElem? (i := 888) (by decide +kernel), List.mem_of_getElem? (i := 889) (by decide +kernel)⟩
theorem lw_p30 : lw_okq (⟨"SingingSaw", "rangeOfTrial", "()I"⟩, 19) := ⟨⟨by decide +kernel, by decide +kernel⟩, List.mem_of_getElem? (i := 24) (by decide +kernel), List.mem_of_getElem? (i := 904) (by decide +kernel), List.mem_of_getElem? (i := 905) (by decide +kernel)⟩
theorem lw_p31 : lw_okq (⟨"SingingSaw$Sentence", "readCond", "(LSingingSaw$Tokens;I)V"⟩, 4) := ⟨⟨by decide +kernel, by decide +kernel⟩, List.mem_of_getElem? (i := 144) (by decide +kernel), List.mem_of_getElem? (i := 924) (by decide +kernel), List.mem_of_getElem? (i := 925) (by decide +kernel)⟩
def lw_privs_2 : List (MethodName × Nat) := [(⟨"SingingSaw$Hand", "move", "(III)V"⟩, 5), (⟨"SingingSaw$Hand", "pass", "(II)V"⟩, 5), (⟨"SingingSaw$Hand", "shake", "(II)V"⟩, 5), (⟨"SingingSaw", "hearBook", "()V"⟩, 19), (⟨"SingingSaw", "listenTo", "(LSingingSaw$Blade;II)V"⟩, 19), (⟨"SingingSaw$Bent", "mostKept", "(I)I"⟩, 11), (⟨"SingingSaw$Song", "costFrom", "(LSingingSaw$Book;II)I"⟩, 3), (⟨"SingingSaw$Song", "cheapestNext", "(LSingingSaw$Book;II)I"⟩, 3), (⟨"SingingSaw$Song", "costAt", "(II)I"⟩, 3), (⟨"SingingSaw$Song", "setCost", "(III)V"⟩, 3), (⟨"SingingSaw", "hearParts", "(II)V"⟩, 19), (⟨"SingingSaw", "nearestPart", "(I)I"⟩, 19), (⟨"SingingSaw", "tellsTones", "()Z"⟩, 19), (⟨"SingingSaw", "isFitting", "(LSingingSaw$Blade;I)Z"⟩, 19), (⟨"SingingSaw", "rangeOfTrial", "()I"⟩, 19), (⟨"SingingSaw$Sentence", "readCond", "(LSingingSaw$Tokens;I)V"⟩, 4)]
theorem lw_r2 : ∀ q ∈ lw_privs_2, lw_okq q := List.forall_mem_cons.mpr ⟨lw_p16, List.forall_mem_cons.mpr ⟨lw_p17, List.forall_mem_cons.mpr ⟨lw_p18, List.forall_mem_cons.mpr ⟨lw_p19, List.forall_mem_cons.mpr ⟨lw_p20, List.forall_mem_cons.mpr ⟨lw_p21, List.forall_mem_cons.mpr ⟨lw_p22, List.forall_mem_cons.mpr ⟨lw_p23, List.forall_mem_cons.mpr ⟨lw_p24, List.forall_mem_cons.mpr ⟨lw_p25, List.forall_mem_cons.mpr ⟨lw_p26, List.forall_mem_cons.mpr ⟨lw_p27, List.forall_mem_cons.mpr ⟨lw_p28, List.forall_mem_cons.mpr ⟨lw_p29, List.forall_mem_cons.mpr ⟨lw_p30, List.forall_mem_cons.mpr ⟨lw_p31, fun _ h => absurd h List.not_mem_nil⟩⟩⟩⟩⟩⟩⟩⟩⟩⟩⟩⟩⟩⟩⟩⟩
theorem lw_p32 : lw_okq (⟨"SingingSaw$Sentence", "readAll", "(LSingingSaw$Tokens;I)V"⟩, 4) := ⟨⟨by decide +kernel, by decide +kernel⟩, List.mem_of_getElem? (i := 144) (by decide +kernel), List.mem_of_getElem? (i := 928) (by decide +kernel), List.mem_of_getElem? (i := 929) (by decide +kernel)⟩
theorem lw_p33 : lw_okq (⟨"SingingSaw$Sentence", "readOne", "(LSingingSaw$Tokens;I)V"⟩, 4) := ⟨⟨by decide +kernel, by decide +kernel⟩, List.mem_of_getElem? (i := 144) (by decide +kernel), List.mem_of_getElem? (i := 932) (by decide +kernel), List.mem_of_getElem? (i := 933) (by decide +kernel)⟩
theorem lw_p34 : lw_okq (⟨"SingingSaw$Sentence", "addStep", "(III)V"⟩, 4) := ⟨⟨by decide +kernel, by decide +kernel⟩, List.mem_of_getElem? (i := 144) (by decide +kernel), List.mem_of_getElem? (i := 953) (by decide +kernel), List.mem_of_getElem? (i := 954) (by decide +kernel)⟩
theorem lw_p35 : lw_okq (⟨"SingingSaw", "askTicks", "()V"⟩, 19) := ⟨⟨by decide +kernel, by decide +kernel⟩, List.mem_of_getElem? (i := 24) (by decide +kernel), List.mem_of_getElem? (i := 972) (by decide +kernel), List.mem_of_getElem? (i := 973) (by decide +kernel)⟩
theorem lw_p36 : lw_okq (⟨"SingingSaw$Sentence", "isSo", "(ILSingingSaw$Bent;I)Z"⟩, 4) := ⟨⟨by decide +kernel, by decide +kernel⟩, List.mem_of_getElem? (i := 144) (by decide +kernel), List.mem_of_getElem? (i := 989) (by decide +kernel), List.mem_of_getElem? (i := 990) (by decide +kernel)⟩
theorem lw_p37 : lw_okq (⟨"SingingSaw$Sentence", "compares", "(II)Z"⟩, 4) := ⟨⟨by decide +kernel, by decide +kernel⟩, List.mem_of_getElem? (i := 144) (by decide +kernel), List.mem_of_getElem? (i := 993) (by decide +kernel), List.mem_of_getElem? (i := 994) (by decide +kernel)⟩
theorem lw_p38 : lw_okq (⟨"java/lang/Throwable", "fillInStackTrace", "(I)Ljava/lang/Throwable;"⟩, 6) := ⟨⟨by decide +kernel, by decide +kernel⟩, List.mem_of_getElem? (i := 1069) (by decide +kernel), List.mem_of_getElem? (i := 1067) (by decide +kernel), List.mem_of_getElem? (i := 1068) (by decide +kernel)⟩
theorem lw_p39 : lw_okq (⟨"SingingSawModel", "come", "(I)V"⟩, 62) := ⟨⟨by decide +kernel, by decide +kernel⟩, List.mem_of_getElem? (i := 1125) (by decide +kernel), List.mem_of_getElem? (i := 1327) (by decide +kernel), List.mem_of_getElem? (i := 1328) (by decide +kernel)⟩
theorem lw_p40 : lw_okq (⟨"SingingSawModel", "begin", "(I)V"⟩, 62) := ⟨⟨by decide +kernel, by decide +kernel⟩, List.mem_of_getElem? (i := 1125) (by decide +kernel), List.mem_of_getElem? (i := 1339) (by decide +kernel), List.mem_of_getElem? (i := 1340) (by decide +kernel)⟩
theorem lw_p41 : lw_okq (⟨"SingingSawModel", "lay", "()V"⟩, 62) := ⟨⟨by decide +kernel, by decide +kernel⟩, List.mem_of_getElem? (i := 1125) (by decide +kernel), List.mem_of_getElem? (i := 1343) (by decide +kernel), List.mem_of_getElem? (i := 1344) (by decide +kernel)⟩
theorem lw_p42 : lw_okq (⟨"SingingSawModel", "takeTape", "()I"⟩, 62) := ⟨⟨by decide +kernel, by decide +kernel⟩, List.mem_of_getElem? (i := 1125) (by decide +kernel), List.mem_of_getElem? (i := 1347) (by decide +kernel), List.mem_of_getElem? (i := 1348) (by decide +kernel)⟩
theorem lw_p43 : lw_okq (⟨"SingingSawModel", "go", "()V"⟩, 62) := ⟨⟨by decide +kernel, by decide +kernel⟩, List.mem_of_getElem? (i := 1125) (by decide +kernel), List.mem_of_getElem? (i := 1351) (by decide +kernel), List.mem_of_getElem? (i := 1352) (by decide +kernel)⟩
theorem lw_p44 : lw_okq (⟨"SingingSawModel", "byteAt", "(I)I"⟩, 62) := ⟨⟨by decide +kernel, by decide +kernel⟩, List.mem_of_getElem? (i := 1125) (by decide +kernel), List.mem_of_getElem? (i := 1361) (by decide +kernel), List.mem_of_getElem? (i := 1362) (by decide +kernel)⟩
theorem lw_p45 : lw_okq (⟨"SingingSawModel", "readLine", "()Z"⟩, 62) := ⟨⟨by decide +kernel, by decide +kernel⟩, List.mem_of_getElem? (i := 1125) (by decide +kernel), List.mem_of_getElem? (i := 1367) (by decide +kernel), List.mem_of_getElem? (i := 1368) (by decide +kernel)⟩
theorem lw_p46 : lw_okq (⟨"SingingSawModel", "isWord", "(I)Z"⟩, 62) := ⟨⟨by decide +kernel, by decide +kernel⟩, List.mem_of_getElem? (i := 1125) (by decide +kernel), List.mem_of_getElem? (i := 1371) (by decide +kernel), List.mem_of_getElem? (i := 1372) (by decide +kernel)⟩
theorem lw_p47 : lw_okq (⟨"SingingSawModel", "bad", "(I)Z"⟩, 62) := ⟨⟨by decide +kernel, by decide +kernel⟩, List.mem_of_getElem? (i := 1125) (by decide +kernel), List.mem_of_getElem? (i := 1384) (by decide +kernel), List.mem_of_getElem? (i := 1385) (by decide +kernel)⟩
def lw_privs_3 : List (MethodName × Nat) := [(⟨"SingingSaw$Sentence", "readAll", "(LSingingSaw$Tokens;I)V"⟩, 4), (⟨"SingingSaw$Sentence", "readOne", "(LSingingSaw$Tokens;I)V"⟩, 4), (⟨"SingingSaw$Sentence", "addStep", "(III)V"⟩, 4), (⟨"SingingSaw", "askTicks", "()V"⟩, 19), (⟨"SingingSaw$Sentence", "isSo", "(ILSingingSaw$Bent;I)Z"⟩, 4), (⟨"SingingSaw$Sentence", "compares", "(II)Z"⟩, 4), (⟨"java/lang/Throwable", "fillInStackTrace", "(I)Ljava/lang/Throwable;"⟩, 6), (⟨"SingingSawModel", "come", "(I)V"⟩, 62), (⟨"SingingSawModel", "begin", "(I)V"⟩, 62), (⟨"SingingSawModel", "lay", "()V"⟩, 62), (⟨"SingingSawModel", "takeTape", "()I"⟩, 62), (⟨"SingingSawModel", "go", "()V"⟩, 62), (⟨"SingingSawModel", "byteAt", "(I)I"⟩, 62), (⟨"SingingSawModel", "readLine", "()Z"⟩, 62), (⟨"SingingSawModel", "isWord", "(I)Z"⟩, 62), (⟨"SingingSawModel", "bad", "(I)Z"⟩, 62)]
theorem lw_r3 : ∀ q ∈ lw_privs_3, lw_okq q := List.forall_mem_cons.mpr ⟨lw_p32, List.forall_mem_cons.mpr ⟨lw_p33, List.forall_mem_cons.mpr ⟨lw_p34, List.forall_mem_cons.mpr ⟨lw_p35, List.forall_mem_cons.mpr ⟨lw_p36, List.forall_mem_cons.mpr ⟨lw_p37, List.forall_mem_cons.mpr ⟨lw_p38, List.forall_mem_cons.mpr ⟨lw_p39, List.forall_mem_cons.mpr ⟨lw_p40, List.forall_mem_cons.mpr ⟨lw_p41, List.forall_mem_cons.mpr ⟨lw_p42, List.forall_mem_cons.mpr ⟨lw_p43, List.forall_mem_cons.mpr ⟨lw_p44, List.forall_mem_cons.mpr ⟨lw_p45, List.forall_mem_cons.mpr ⟨lw_p46, List.forall_mem_cons.mpr ⟨lw_p47, fun _ h => absurd h List.not_mem_nil⟩⟩⟩⟩⟩⟩⟩⟩⟩⟩⟩⟩⟩⟩⟩⟩
theorem lw_p48 : lw_okq (⟨"SingingSawModel", "readNumber", "(II)Z"⟩, 62) := ⟨⟨by decide +kernel, by decide +kernel⟩, List.mem_of_getElem? (i := 1125) (by decide +kernel), List.mem_of_getElem? (i := 1388) (by decide +kernel), List.mem_of_getElem? (i := 1389) (by decide +kernel)⟩
theorem lw_p49 : lw_okq (⟨"SingingSawModel", "readEnd", "()Z"⟩, 62) := ⟨⟨by decide +kernel, by decide +kernel⟩, List.mem_of_getElem? (i := 1125) (by decide +kernel), List.mem_of_getElem? (i := 1395) (by decide +kernel), List.mem_of_getElem? (i := 1396) (by decide +kernel)⟩
theorem lw_p50 : lw_okq (⟨"SingingSawModel", "isSign", "(I)Z"⟩, 62) := ⟨⟨by decide +kernel, by decide +kernel⟩, List.mem_of_getElem? (i := 1125) (by decide +kernel), List.mem_of_getElem? (i := 1399) (by decide +kernel), List.mem_of_getElem? (i := 1400) (by decide +kernel)⟩
theorem lw_p51 : lw_okq (⟨"SingingSawModel", "readSigned", "(I)Z"⟩, 62) := ⟨⟨by decide +kernel, by decide +kernel⟩, List.mem_of_getElem? (i := 1125) (by decide +kernel), List.mem_of_getElem? (i := 1403) (by decide +kernel), List.mem_of_getElem? (i := 1404) (by decide +kernel)⟩
theorem lw_p52 : lw_okq (⟨"SingingSawModel", "pieces", "()I"⟩, 62) := ⟨⟨by decide +kernel, by decide +kernel⟩, List.mem_of_getElem? (i := 1125) (by decide +kernel), List.mem_of_getElem? (i := 1415) (by decide +kernel), List.mem_of_getElem? (i := 1416) (by decide +kernel)⟩
theorem lw_p53 : lw_okq (⟨"SingingSawModel", "refuse", "()I"⟩, 62) := ⟨⟨by decide +kernel, by decide +kernel⟩, List.mem_of_getElem? (i := 1125) (by decide +kernel), List.mem_of_getElem? (i := 1419) (by decide +kernel), List.mem_of_getElem? (i := 1420) (by decide +kernel)⟩
theorem lw_p54 : lw_okq (⟨"SingingSawModel", "stiffness", "(III)I"⟩, 62) := ⟨⟨by decide +kernel, by decide +kernel⟩, List.mem_of_getElem? (i := 1125) (by decide +kernel), List.mem_of_getElem? (i := 1423) (by decide +kernel), List.mem_of_getElem? (i := 1424) (by decide +kernel)⟩
theorem lw_p55 : lw_okq (⟨"SingingSawModel", "layBend", "(IIIII)V"⟩, 62) := ⟨⟨by decide +kernel, by decide +kernel⟩, List.mem_of_getElem? (i := 1125) (by decide +kernel), List.mem_of_getElem? (i := 1434) (by decide +kernel), List.mem_of_getElem? (i := 1435) (by decide +kernel)⟩
theorem lw_p56 : lw_okq (⟨"SingingSawModel", "isShutIn", "(I)Z"⟩, 62) := ⟨⟨by decide +kernel, by decide +kernel⟩, List.mem_of_getElem? (i := 1125) (by decide +kernel), List.mem_of_getElem? (i := 1439) (by decide +kernel), List.mem_of_getElem? (i := 1440) (by decide +kernel)⟩
theorem lw_p57 : lw_okq (⟨"SingingSawModel", "toneOf", "(II)I"⟩, 62) := ⟨⟨by decide +kernel, by decide +kernel⟩, List.mem_of_getElem? (i := 1125) (by decide +kernel), List.mem_of_getElem? (i := 1455) (by decide +kernel), List.mem_of_getElem? (i := 1456) (by decide +kernel)⟩
theorem lw_p58 : lw_okq (⟨"SingingSawModel", "phases", "(II)I"⟩, 62) := ⟨⟨by decide +kernel, by decide +kernel⟩, List.mem_of_getElem? (i := 1125) (by decide +kernel), List.mem_of_getElem? (i := 1459) (by decide +kernel), List.mem_of_getElem? (i := 1460) (by decide +kernel)⟩
theorem lw_p59 : lw_okq (⟨"SingingSawModel", "isShut", "()Z"⟩, 62) := ⟨⟨by decide +kernel, by decide +kernel⟩, List.mem_of_getElem? (i := 1125) (by decide +kernel), List.mem_of_getElem? (i := 1466) (by decide +kernel), List.mem_of_getElem? (i := 1467) (by decide +kernel)⟩
theorem lw_p60 : lw_okq (⟨"SingingSawModel", "isTwice", "(I)Z"⟩, 62) := ⟨⟨by decide +kernel, by decide +kernel⟩, List.mem_of_getElem? (i := 1125) (by decide +kernel), List.mem_of_getElem? (i := 1470) (by decide +kernel), List.mem_of_getElem? (i := 1471) (by decide +kernel)⟩
theorem lw_p61 : lw_okq (⟨"SingingSawModel", "rings", "(I)I"⟩, 62) := ⟨⟨by decide +kernel, by decide +kernel⟩, List.mem_of_getElem? (i := 1125) (by decide +kernel), List.mem_of_getElem? (i := 1474) (by decide +kernel), List.mem_of_getElem? (i := 1475) (by decide +kernel)⟩
theorem lw_p62 : lw_okq (⟨"SingingSawModel", "strengthAt", "(II)I"⟩, 62) := ⟨⟨by decide +kernel, by decide +kernel⟩, List.mem_of_getElem? (i := 1125) (by decide +kernel), List.mem_of_getElem? (i := 1478) (by decide +kernel), List.mem_of_getElem? (i := 1479) (by decide +kernel)⟩
theorem lw_p63 : lw_okq (⟨"SingingSawModel", "readStep", "()Z"⟩, 62) := ⟨⟨by decide +kernel, by decide +kernel⟩, List.mem_of_getElem? (i := 1125) (by decide +kernel), List.mem_of_getElem? (i := 1502) (by decide +kernel), List.mem_of_getElem? (i := 1503) (by decide +kernel)⟩
def lw_privs_4 : List (MethodName × Nat) := [(⟨"SingingSawModel", "readNumber", "(II)Z"⟩, 62), (⟨"SingingSawModel", "readEnd", "()Z"⟩, 62), (⟨"SingingSawModel", "isSign", "(I)Z"⟩, 62), (⟨"SingingSawModel", "readSigned", "(I)Z"⟩, 62), (⟨"SingingSawModel", "pieces", "()I"⟩, 62), (⟨"SingingSawModel", "refuse", "()I"⟩, 62), (⟨"SingingSawModel", "stiffness", "(III)I"⟩, 62), (⟨"SingingSawModel", "layBend", "(IIIII)V"⟩, 62), (⟨"SingingSawModel", "isShutIn", "(I)Z"⟩, 62), (⟨"SingingSawModel", "toneOf", "(II)I"⟩, 62), (⟨"SingingSawModel", "phases", "(II)I"⟩, 62), (⟨"SingingSawModel", "isShut", "()Z"⟩, 62), (⟨"SingingSawModel", "isTwice", "(I)Z"⟩, 62), (⟨"SingingSawModel", "rings", "(I)I"⟩, 62), (⟨"SingingSawModel", "strengthAt", "(II)I"⟩, 62), (⟨"SingingSawModel", "readStep", "()Z"⟩, 62)]
theorem lw_r4 : ∀ q ∈ lw_privs_4, lw_okq q := List.forall_mem_cons.mpr ⟨lw_p48, List.forall_mem_cons.mpr ⟨lw_p49, List.forall_mem_cons.mpr ⟨lw_p50, List.forall_mem_cons.mpr ⟨lw_p51, List.forall_mem_cons.mpr ⟨lw_p52, List.forall_mem_cons.mpr ⟨lw_p53, List.forall_mem_cons.mpr ⟨lw_p54, List.forall_mem_cons.mpr ⟨lw_p55, List.forall_mem_cons.mpr ⟨lw_p56, List.forall_mem_cons.mpr ⟨lw_p57, List.forall_mem_cons.mpr ⟨lw_p58, List.forall_mem_cons.mpr ⟨lw_p59, List.forall_mem_cons.mpr ⟨lw_p60, List.forall_mem_cons.mpr ⟨lw_p61, List.forall_mem_cons.mpr ⟨lw_p62, List.forall_mem_cons.mpr ⟨lw_p63, fun _ h => absurd h List.not_mem_nil⟩⟩⟩⟩⟩⟩⟩⟩⟩⟩⟩⟩⟩⟩⟩⟩
theorem lw_p64 : lw_okq (⟨"SingingSawModel", "readTime", "()Z"⟩, 62) := ⟨⟨by decide +kernel, by decide +kernel⟩, List.mem_of_getElem? (i := 1125) (by decide +kernel), List.mem_of_getElem? (i := 1506) (by decide +kernel), List.mem_of_getElem? (i := 1507) (by decide +kernel)⟩
theorem lw_p65 : lw_okq (⟨"SingingSawModel", "readWord", "(I)Z"⟩, 62) := ⟨⟨by decide +kernel, by decide +kernel⟩, List.mem_of_getElem? (i := 1125) (by decide +kernel), List.mem_of_getElem? (i := 1510) (by decide +kernel), List.mem_of_getElem? (i := 1511) (by decide +kernel)⟩
theorem lw_p66 : lw_okq (⟨"SingingSawModel", "readLast", "()Z"⟩, 62) := ⟨⟨by decide +kernel, by decide +kernel⟩, List.mem_of_getElem? (i := 1125) (by decide +kernel), List.mem_of_getElem? (i := 1514) (by decide +kernel), List.mem_of_getElem? (i := 1515) (by decide +kernel)⟩
theorem lw_p67 : lw_okq (⟨"SingingSawModel", "tickTo", "(II)V"⟩, 62) := ⟨⟨by decide +kernel, by decide +kernel⟩, List.mem_of_getElem? (i := 1125) (by decide +kernel), List.mem_of_getElem? (i := 1518) (by decide +kernel), List.mem_of_getElem? (i := 1519) (by decide +kernel)⟩
theorem lw_p68 : lw_okq (⟨"SingingSawModel", "voiceOf", "(II)I"⟩, 62) := ⟨⟨by decide +kernel, by decide +kernel⟩, List.mem_of_getElem? (i := 1125) (by decide +kernel), List.mem_of_getElem? (i := 1529) (by decide +kernel), List.mem_of_getElem? (i := 1530) (by decide +kernel)⟩
theorem lw_p69 : lw_okq (⟨"SingingSawModel", "voiceBy", "(IIIII)I"⟩, 62) := ⟨⟨by decide +kernel, by decide +kernel⟩, List.mem_of_getElem? (i := 1125) (by decide +kernel), List.mem_of_getElem? (i := 1533) (by decide +kernel), List.mem_of_getElem? (i := 1534) (by decide +kernel)⟩
theorem lw_p70 : lw_okq (⟨"SingingSawModel", "bends", "()I"⟩, 62) := ⟨⟨by decide +kernel, by decide +kernel⟩, List.mem_of_getElem? (i := 1125) (by decide +kernel), List.mem_of_getElem? (i := 1541) (by decide +kernel), List.mem_of_getElem? (i := 1542) (by decide +kernel)⟩
theorem lw_p71 : lw_okq (⟨"SingingSawModel", "isWritten", "(I)Z"⟩, 62) := ⟨⟨by decide +kernel, by decide +kernel⟩, List.mem_of_getElem? (i := 1125) (by decide +kernel), List.mem_of_getElem? (i := 1549) (by decide +kernel), List.mem_of_getElem? (i := 1550) (by decide +kernel)⟩
theorem lw_p72 : lw_okq (⟨"SingingSawModel", "aOf", "(I)I"⟩, 62) := ⟨⟨by decide +kernel, by decide +kernel⟩, List.mem_of_getElem? (i := 1125) (by decide +kernel), List.mem_of_getElem? (i := 1553) (by decide +kernel), List.mem_of_getElem? (i := 1554) (by decide +kernel)⟩
theorem lw_p73 : lw_okq (⟨"SingingSawModel", "bOf", "(I)I"⟩, 62) := ⟨⟨by decide +kernel, by decide +kernel⟩, List.mem_of_getElem? (i := 1125) (by decide +kernel), List.mem_of_getElem? (i := 1557) (by decide +kernel), List.mem_of_getElem? (i := 1558) (by decide +kernel)⟩
theorem lw_p74 : lw_okq (⟨"SingingSawModel", "sing", "()V"⟩, 62) := ⟨⟨by decide +kernel, by decide +kernel⟩, List.mem_of_getElem? (i := 1125) (by decide +kernel), List.mem_of_getElem? (i := 1565) (by decide +kernel), List.mem_of_getElem? (i := 1566) (by decide +kernel)⟩
theorem lw_p75 : lw_okq (⟨"SingingSawModel", "way", "(II)I"⟩, 62) := ⟨⟨by decide +kernel, by decide +kernel⟩, List.mem_of_getElem? (i := 1125) (by decide +kernel), List.mem_of_getElem? (i := 1574) (by decide +kernel), List.mem_of_getElem? (i := 1575) (by decide +kernel)⟩
theorem lw_p76 : lw_okq (⟨"SingingSawModel", "isNear", "(III)Z"⟩, 62) := ⟨⟨by decide +kernel, by decide +kernel⟩, List.mem_of_getElem? (i := 1125) (by decide +kernel), List.mem_of_getElem? (i := 1581) (by decide +kernel), List.mem_of_getElem? (i := 1582) (by decide +kernel)⟩
theorem lw_p77 : lw_okq (⟨"SingingSawModel", "isThere", "(I)Z"⟩, 62) := ⟨⟨by decide +kernel, by decide +kernel⟩, List.mem_of_getElem? (i := 1125) (by decide +kernel), List.mem_of_getElem? (i := 1617) (by decide +kernel), List.mem_of_getElem? (i := 1618) (by decide +kernel)⟩
theorem lw_p78 : lw_okq (⟨"SingingSawModel", "isBladeOf", "(III)Z"⟩, 62) := ⟨⟨by decide +kernel, by decide +kernel⟩, List.mem_of_getElem? (i := 1125) (by decide +kernel), List.mem_of_getElem? (i := 1625) (by decide +kernel), List.mem_of_getElem? (i := 1626) (by decide +kernel)⟩
theorem lw_p79 : lw_okq (⟨"SingingSawModel", "rangeBy", "(II)I"⟩, 62) := ⟨⟨by decide +kernel, by decide +kernel⟩, List.mem_of_getElem? (i := 1125) (by decide +kernel), List.mem_of_getElem? (i := 1633) (by decide +kernel), List.mem_of_getElem? (i := 1634) (by decide +kernel)⟩
def lw_privs_5 : List (MethodName × Nat) := [(⟨"SingingSawModel", "readTime", "()Z"⟩, 62), (⟨"SingingSawModel", "readWord", "(I)Z"⟩, 62), (⟨"SingingSawModel", "readLast", "()Z"⟩, 62), (⟨"SingingSawModel", "tickTo", "(II)V"⟩, 62), (⟨"SingingSawModel", "voiceOf", "(II)I"⟩, 62), (⟨"SingingSawModel", "voiceBy", "(IIIII)I"⟩, 62), (⟨"SingingSawModel", "bends", "()I"⟩, 62), (⟨"SingingSawModel", "isWritten", "(I)Z"⟩, 62), (⟨"SingingSawModel", "aOf", "(I)I"⟩, 62), (⟨"SingingSawModel", "bOf", "(I)I"⟩, 62), (⟨"SingingSawModel", "sing", "()V"⟩, 62), (⟨"SingingSawModel", "way", "(II)I"⟩, 62), (⟨"SingingSawModel", "isNear", "(III)Z"⟩, 62), (⟨"SingingSawModel", "isThere", "(I)Z"⟩, 62), (⟨"SingingSawModel", "isBladeOf", "(III)Z"⟩, 62), (⟨"SingingSawModel", "rangeBy", "(II)I"⟩, 62)]
theorem lw_r5 : ∀ q ∈ lw_privs_5, lw_okq q := List.forall_mem_cons.mpr ⟨lw_p64, List.forall_mem_cons.mpr ⟨lw_p65, List.forall_mem_cons.mpr ⟨lw_p66, List.forall_mem_cons.mpr ⟨lw_p67, List.forall_mem_cons.mpr ⟨lw_p68, List.forall_mem_cons.mpr ⟨lw_p69, List.forall_mem_cons.mpr ⟨lw_p70, List.forall_mem_cons.mpr ⟨lw_p71, List.forall_mem_cons.mpr ⟨lw_p72, List.forall_mem_cons.mpr ⟨lw_p73, List.forall_mem_cons.mpr ⟨lw_p74, List.forall_mem_cons.mpr ⟨lw_p75, List.forall_mem_cons.mpr ⟨lw_p76, List.forall_mem_cons.mpr ⟨lw_p77, List.forall_mem_cons.mpr ⟨lw_p78, List.forall_mem_cons.mpr ⟨lw_p79, fun _ h => absurd h List.not_mem_nil⟩⟩⟩⟩⟩⟩⟩⟩⟩⟩⟩⟩⟩⟩⟩⟩
theorem lw_p80 : lw_okq (⟨"SingingSawModel", "readOr", "()Z"⟩, 62) := ⟨⟨by decide +kernel, by decide +kernel⟩, List.mem_of_getElem? (i := 1125) (by decide +kernel), List.mem_of_getElem? (i := 1649) (by decide +kernel), List.mem_of_getElem? (i := 1650) (by decide +kernel)⟩
theorem lw_p81 : lw_okq (⟨"SingingSawModel", "readAnd", "()Z"⟩, 62) := ⟨⟨by decide +kernel, by decide +kernel⟩, List.mem_of_getElem? (i := 1125) (by decide +kernel), List.mem_of_getElem? (i := 1653) (by decide +kernel), List.mem_of_getElem? (i := 1654) (by decide +kernel)⟩
theorem lw_p82 : lw_okq (⟨"SingingSawModel", "readOne", "()Z"⟩, 62) := ⟨⟨by decide +kernel, by decide +kernel⟩, List.mem_of_getElem? (i := 1125) (by decide +kernel), List.mem_of_getElem? (i := 1657) (by decide +kernel), List.mem_of_getElem? (i := 1658) (by decide +kernel)⟩
theorem lw_p83 : lw_okq (⟨"SingingSawModel", "readBracket", "()Z"⟩, 62) := ⟨⟨by decide +kernel, by decide +kernel⟩, List.mem_of_getElem? (i := 1125) (by decide +kernel), List.mem_of_getElem? (i := 1661) (by decide +kernel), List.mem_of_getElem? (i := 1662) (by decide +kernel)⟩
theorem lw_p84 : lw_okq (⟨"SingingSawModel", "readNot", "()Z"⟩, 62) := ⟨⟨by decide +kernel, by decide +kernel⟩, List.mem_of_getElem? (i := 1125) (by decide +kernel), List.mem_of_getElem? (i := 1665) (by decide +kernel), List.mem_of_getElem? (i := 1666) (by decide +kernel)⟩
theorem lw_p85 : lw_okq (⟨"SingingSawModel", "lays", "(IIII)I"⟩, 62) := ⟨⟨by decide +kernel, by decide +kernel⟩, List.mem_of_getElem? (i := 1125) (by decide +kernel), List.mem_of_getElem? (i := 1669) (by decide +kernel), List.mem_of_getElem? (i := 1670) (by decide +kernel)⟩
theorem lw_p86 : lw_okq (⟨"SingingSawModel", "readCompare", "(I)Z"⟩, 62) := ⟨⟨by decide +kernel, by decide +kernel⟩, List.mem_of_getElem? (i := 1125) (by decide +kernel), List.mem_of_getElem? (i := 1673) (by decide +kernel), List.mem_of_getElem? (i := 1674) (by decide +kernel)⟩
theorem lw_p87 : lw_okq (⟨"SingingSawModel", "isSo", "(II)Z"⟩, 62) := ⟨⟨by decide +kernel, by decide +kernel⟩, List.mem_of_getElem? (i := 1125) (by decide +kernel), List.mem_of_getElem? (i := 1681) (by decide +kernel), List.mem_of_getElem? (i := 1682) (by decide +kernel)⟩
theorem lw_p88 : lw_okq (⟨"SingingSawModel", "valueOf", "(II)I"⟩, 62) := ⟨⟨by decide +kernel, by decide +kernel⟩, List.mem_of_getElem? (i := 1125) (by decide +kernel), List.mem_of_getElem? (i := 1685) (by decide +kernel), List.mem_of_getElem? (i := 1686) (by decide +kernel)⟩
def lw_privs_6 : List (MethodName × Nat) := [(⟨"SingingSawModel", "readOr", "()Z"⟩, 62), (⟨"SingingSawModel", "readAnd", "()Z"⟩, 62), (⟨"SingingSawModel", "readOne", "()Z"⟩, 62), (⟨"SingingSawModel", "readBracket", "()Z"⟩, 62), (⟨"SingingSawModel", "readNot", "()Z"⟩, 62), (⟨"SingingSawModel", "lays", "(IIII)I"⟩, 62), (⟨"SingingSawModel", "readCompare", "(I)Z"⟩, 62), (⟨"SingingSawModel", "isSo", "(II)Z"⟩, 62), (⟨"SingingSawModel", "valueOf", "(II)I"⟩, 62)]
theorem lw_r6 : ∀ q ∈ lw_privs_6, lw_okq q := List.forall_mem_cons.mpr ⟨lw_p80, List.forall_mem_cons.mpr ⟨lw_p81, List.forall_mem_cons.mpr ⟨lw_p82, List.forall_mem_cons.mpr ⟨lw_p83, List.forall_mem_cons.mpr ⟨lw_p84, List.forall_mem_cons.mpr ⟨lw_p85, List.forall_mem_cons.mpr ⟨lw_p86, List.forall_mem_cons.mpr ⟨lw_p87, List.forall_mem_cons.mpr ⟨lw_p88, fun _ h => absurd h List.not_mem_nil⟩⟩⟩⟩⟩⟩⟩⟩⟩
def lw_privs : List (MethodName × Nat) := lw_privs_1 ++ (lw_privs_2 ++ (lw_privs_3 ++ (lw_privs_4 ++ (lw_privs_5 ++ (lw_privs_6)))))
def lw_tbl : List Cond := k2_sels lw_privs ++ tables_1
theorem lw_privs_ok : ∀ q ∈ lw_privs, lw_okq q := by
  show ∀ q ∈ lw_privs_1 ++ (lw_privs_2 ++ (lw_privs_3 ++ (lw_privs_4 ++ (lw_privs_5 ++ (lw_privs_6))))), lw_okq q
  exact List.forall_mem_append.mpr ⟨lw_r1, List.forall_mem_append.mpr ⟨lw_r2, List.forall_mem_append.mpr ⟨lw_r3, List.forall_mem_append.mpr ⟨lw_r4, List.forall_mem_append.mpr ⟨lw_r5, lw_r6⟩⟩⟩⟩⟩

def RX0 : String := "SingingSaw$Bent"
def TX0 : u_T := fun k => match k with
  | 0 => ("SingingSaw$Bent", "heights", "[I", true)
  | 1 => ("SingingSaw$Bent", "walls", "[I", true)
  | 2 => ("SingingSaw$Bent", "places", "LSingingSaw$Row;", true)
  | 3 => ("SingingSaw$Bent", "size", "I", false)
  | 4 => ("SingingSaw$Bent", "unit", "I", false)
  | 5 => ("SingingSaw$Bent", "brokenAt", "I", false)
  | 6 => ("SingingSaw$Bent", "mostStrain", "I", false)
  | 7 => ("SingingSaw$Bent", "voice", "I", false)
  | 8 => ("SingingSaw$Bent", "voicePiece", "I", false)
  | 9 => ("SingingSaw$Bent", "voiceRings", "I", false)
  | _ => ("SingingSaw$Bent", "voiceTwice", "Z", false)
def tyX0 : Nat → FieldType := fun k => match k with
  | 0 => .array .int
  | 1 => .array .int
  | 2 => .object "SingingSaw$Row"
  | 3 => .int
  | 4 => .int
  | 5 => .int
  | 6 => .int
  | 7 => .int
  | 8 => .int
  | 9 => .int
  | _ => .boolean
abbrev wsX00 : List Cond := u_ws RX0 TX0 11
theorem nmX0 : ∀ a, a < 11 → ∀ b, b < 11 → a ≠ b → (TX0 a).2.1 ≠ (TX0 b).2.1 := by decide +kernel
theorem tyX0_ok : ∀ k, k < 11 → parseFieldDescriptor (TX0 k).2.2.1 = some (tyX0 k) := by decide +kernel
abbrev cX0_init : ByteArray := prog_2_method_1_code
def yX0_init : MethodName := ⟨RX0, "<init>", "()V"⟩
abbrev cX0_bendTo : ByteArray := prog_2_method_2_code
def yX0_bendTo : MethodName := ⟨RX0, "bendTo", "(LSingingSaw$Blade;II)V"⟩
abbrev cX0_isPlace : ByteArray := prog_2_method_3_code
def yX0_isPlace : MethodName := ⟨RX0, "isPlace", "(I)Z"⟩
abbrev cX0_sound : ByteArray := prog_2_method_4_code
def yX0_sound : MethodName := ⟨RX0, "sound", "(IILSingingSaw$Tone;)Z"⟩
abbrev cX0_listen : ByteArray := prog_2_method_5_code
def yX0_listen : MethodName := ⟨RX0, "listen", "()V"⟩
abbrev cX0_mostKept : ByteArray := prog_2_method_6_code
def yX0_mostKept : MethodName := ⟨RX0, "mostKept", "(I)I"⟩
abbrev cX0_leastTone : ByteArray := prog_2_method_7_code
def yX0_leastTone : MethodName := ⟨RX0, "leastTone", "(III)I"⟩
abbrev cX0_enoughAlone : ByteArray := prog_2_method_8_code
def yX0_enoughAlone : MethodName := ⟨RX0, "enoughAlone", "(II)I"⟩
abbrev cX0_reaches : ByteArray := prog_2_method_9_code
def yX0_reaches : MethodName := ⟨RX0, "reaches", "(III)Z"⟩
abbrev cX0_firstOfRun : ByteArray := prog_2_method_10_code
def yX0_firstOfRun : MethodName := ⟨RX0, "firstOfRun", "(II)I"⟩
abbrev cX0_lastOfRun : ByteArray := prog_2_method_11_code
def yX0_lastOfRun : MethodName := ⟨RX0, "lastOfRun", "(II)I"⟩
abbrev cX0_isTwice : ByteArray := prog_2_method_12_code
def yX0_isTwice : MethodName := ⟨RX0, "isTwice", "(II)Z"⟩
abbrev cX0_rings : ByteArray := prog_2_method_13_code
def yX0_rings : MethodName := ⟨RX0, "rings", "(III)I"⟩
abbrev cX0_tellStrengths : ByteArray := prog_2_method_14_code
def yX0_tellStrengths : MethodName := ⟨RX0, "tellStrengths", "(LSingingSaw$Tone;)V"⟩
abbrev cX0_root : ByteArray := prog_2_method_15_code
def yX0_root : MethodName := ⟨RX0, "root", "(I)I"⟩
def RX1 : String := "SingingSaw$Blade"
def TX1 : u_T := fun k => match k with
  | 0 => ("SingingSaw$Blade", "widths", "[I", true)
  | 1 => ("SingingSaw$Blade", "thicks", "[I", true)
  | 2 => ("SingingSaw$Blade", "teeth", "[I", true)
  | 3 => ("SingingSaw$Blade", "owns", "[I", true)
  | 4 => ("SingingSaw$Blade", "size", "I", false)
  | 5 => ("SingingSaw$Blade", "unit", "I", false)
  | _ => ("SingingSaw$Blade", "bear", "I", false)
def tyX1 : Nat → FieldType := fun k => match k with
  | 0 => .array .int
  | 1 => .array .int
  | 2 => .array .int
  | 3 => .array .int
  | 4 => .int
  | 5 => .int
  | _ => .int
abbrev wsX10 : List Cond := u_ws RX1 TX1 7
theorem nmX1 : ∀ a, a < 7 → ∀ b, b < 7 → a ≠ b → (TX1 a).2.1 ≠ (TX1 b).2.1 := by decide +kernel
theorem tyX1_ok : ∀ k, k < 7 → parseFieldDescriptor (TX1 k).2.2.1 = some (tyX1 k) := by decide +kernel
abbrev cX1_init : ByteArray := prog_3_method_1_code
def yX1_init : MethodName := ⟨RX1, "<init>", "()V"⟩
abbrev cX1_has : ByteArray := prog_3_method_2_code
def yX1_has : MethodName := ⟨RX1, "has", "(I)Z"⟩
abbrev cX1_addAlike : ByteArray := prog_3_method_3_code
def yX1_addAlike : MethodName := ⟨RX1, "addAlike", "(IIIII)V"⟩
abbrev cX1_fillUntold : ByteArray := prog_3_method_4_code
def yX1_fillUntold : MethodName := ⟨RX1, "fillUntold", "()V"⟩
abbrev cX1_copyFrom : ByteArray := prog_3_method_5_code
def yX1_copyFrom : MethodName := ⟨RX1, "copyFrom", "(LSingingSaw$Blade;)V"⟩
abbrev cX1_thicken : ByteArray := prog_3_method_6_code
def yX1_thicken : MethodName := ⟨RX1, "thicken", "(II)V"⟩
abbrev cX1_told : ByteArray := prog_3_method_7_code
def yX1_told : MethodName := ⟨RX1, "told", "(II)I"⟩
abbrev cX1_stiffness : ByteArray := prog_3_method_8_code
def yX1_stiffness : MethodName := ⟨RX1, "stiffness", "(I)I"⟩
abbrev cX1_curve : ByteArray := prog_3_method_9_code
def yX1_curve : MethodName := ⟨RX1, "curve", "(III)I"⟩
abbrev cX1_strain : ByteArray := prog_3_method_10_code
def yX1_strain : MethodName := ⟨RX1, "strain", "(III)I"⟩
abbrev cX1_readFrom : ByteArray := prog_3_method_11_code
def yX1_readFrom : MethodName := ⟨RX1, "readFrom", "(LSingingSaw$Tokens;)V"⟩
abbrev cX1_readLine : ByteArray := prog_3_method_12_code
def yX1_readLine : MethodName := ⟨RX1, "readLine", "(LSingingSaw$Tokens;)V"⟩
abbrev cX1_readOnce : ByteArray := prog_3_method_13_code
def yX1_readOnce : MethodName := ⟨RX1, "readOnce", "(LSingingSaw$Tokens;I)I"⟩
abbrev cX1_readPieces : ByteArray := prog_3_method_14_code
def yX1_readPieces : MethodName := ⟨RX1, "readPieces", "(LSingingSaw$Tokens;)V"⟩
def RX2 : String := "SingingSaw$Book"
def TX2 : u_T := fun k => match k with
  | 0 => ("SingingSaw$Book", "knees", "LSingingSaw$Row;", true)
  | 1 => ("SingingSaw$Book", "tips", "LSingingSaw$Row;", true)
  | _ => ("SingingSaw$Book", "size", "I", false)
def tyX2 : Nat → FieldType := fun k => match k with
  | 0 => .object "SingingSaw$Row"
  | 1 => .object "SingingSaw$Row"
  | _ => .int
abbrev wsX20 : List Cond := u_ws RX2 TX2 3
theorem nmX2 : ∀ a, a < 3 → ∀ b, b < 3 → a ≠ b → (TX2 a).2.1 ≠ (TX2 b).2.1 := by decide +kernel
theorem tyX2_ok : ∀ k, k < 3 → parseFieldDescriptor (TX2 k).2.2.1 = some (tyX2 k) := by decide +kernel
abbrev cX2_init : ByteArray := prog_4_method_1_code
def yX2_init : MethodName := ⟨RX2, "<init>", "()V"⟩
abbrev cX2_add : ByteArray := prog_4_method_2_code
def yX2_add : MethodName := ⟨RX2, "add", "(II)V"⟩
abbrev cX2_copyFrom : ByteArray := prog_4_method_3_code
def yX2_copyFrom : MethodName := ⟨RX2, "copyFrom", "(LSingingSaw$Book;)V"⟩
abbrev cX2_way : ByteArray := prog_4_method_4_code
def yX2_way : MethodName := ⟨RX2, "way", "(II)I"⟩
def RX3 : String := "SingingSaw$Hand"
def TX3 : u_T := fun k => match k with
  | 0 => ("SingingSaw$Hand", "knees", "[I", true)
  | 1 => ("SingingSaw$Hand", "tips", "[I", true)
  | 2 => ("SingingSaw$Hand", "size", "I", false)
  | 3 => ("SingingSaw$Hand", "a", "I", false)
  | _ => ("SingingSaw$Hand", "b", "I", false)
def tyX3 : Nat → FieldType := fun k => match k with
  | 0 => .array .int
  | 1 => .array .int
  | 2 => .int
  | 3 => .int
  | _ => .int
abbrev wsX30 : List Cond := u_ws RX3 TX3 5
theorem nmX3 : ∀ a, a < 5 → ∀ b, b < 5 → a ≠ b → (TX3 a).2.1 ≠ (TX3 b).2.1 := by decide +kernel
theorem tyX3_ok : ∀ k, k < 5 → parseFieldDescriptor (TX3 k).2.2.1 = some (tyX3 k) := by decide +kernel
abbrev cX3_init : ByteArray := prog_5_method_1_code
def yX3_init : MethodName := ⟨RX3, "<init>", "()V"⟩
abbrev cX3_knee : ByteArray := prog_5_method_2_code
def yX3_knee : MethodName := ⟨RX3, "knee", "(I)I"⟩
abbrev cX3_tip : ByteArray := prog_5_method_3_code
def yX3_tip : MethodName := ⟨RX3, "tip", "(I)I"⟩
abbrev cX3_readFrom : ByteArray := prog_5_method_4_code
def yX3_readFrom : MethodName := ⟨RX3, "readFrom", "(LSingingSaw$Tokens;)V"⟩
abbrev cX3_readMove : ByteArray := prog_5_method_5_code
def yX3_readMove : MethodName := ⟨RX3, "readMove", "(LSingingSaw$Tokens;)V"⟩
abbrev cX3_readTicks : ByteArray := prog_5_method_6_code
def yX3_readTicks : MethodName := ⟨RX3, "readTicks", "(LSingingSaw$Tokens;)I"⟩
abbrev cX3_move : ByteArray := prog_5_method_7_code
def yX3_move : MethodName := ⟨RX3, "move", "(III)V"⟩
abbrev cX3_shake : ByteArray := prog_5_method_8_code
def yX3_shake : MethodName := ⟨RX3, "shake", "(II)V"⟩
abbrev cX3_pass : ByteArray := prog_5_method_9_code
def yX3_pass : MethodName := ⟨RX3, "pass", "(II)V"⟩
def RX4 : String := "SingingSaw$Row"
def TX4 : u_T := fun k => match k with
  | 0 => ("SingingSaw$Row", "items", "[I", true)
  | 1 => ("SingingSaw$Row", "size", "I", false)
  | _ => ("SingingSaw$Row", "isFresh", "Z", false)
def tyX4 : Nat → FieldType := fun k => match k with
  | 0 => .array .int
  | 1 => .int
  | _ => .boolean
abbrev wsX40 : List Cond := u_ws RX4 TX4 3
theorem nmX4 : ∀ a, a < 3 → ∀ b, b < 3 → a ≠ b → (TX4 a).2.1 ≠ (TX4 b).2.1 := by decide +kernel
theorem tyX4_ok : ∀ k, k < 3 → parseFieldDescriptor (TX4 k).2.2.1 = some (tyX4 k) := by decide +kernel
abbrev cX4_init : ByteArray := prog_6_method_1_code
def yX4_init : MethodName := ⟨RX4, "<init>", "(I)V"⟩
abbrev cX4_clear : ByteArray := prog_6_method_2_code
def yX4_clear : MethodName := ⟨RX4, "clear", "()V"⟩
abbrev cX4_add : ByteArray := prog_6_method_3_code
def yX4_add : MethodName := ⟨RX4, "add", "(I)V"⟩
abbrev cX4_at : ByteArray := prog_6_method_4_code
def yX4_at : MethodName := ⟨RX4, "at", "(I)I"⟩
abbrev cX4_copyFrom : ByteArray := prog_6_method_5_code
def yX4_copyFrom : MethodName := ⟨RX4, "copyFrom", "(LSingingSaw$Row;)V"⟩
def RX5 : String := "SingingSaw$Sentence"
def TX5 : u_T := fun k => match k with
  | 0 => ("SingingSaw$Sentence", "kinds", "LSingingSaw$Row;", true)
  | 1 => ("SingingSaw$Sentence", "signs", "LSingingSaw$Row;", true)
  | 2 => ("SingingSaw$Sentence", "numbers", "LSingingSaw$Row;", true)
  | _ => ("SingingSaw$Sentence", "ones", "I", false)
def tyX5 : Nat → FieldType := fun k => match k with
  | 0 => .object "SingingSaw$Row"
  | 1 => .object "SingingSaw$Row"
  | 2 => .object "SingingSaw$Row"
  | _ => .int
abbrev wsX50 : List Cond := u_ws RX5 TX5 4
theorem nmX5 : ∀ a, a < 4 → ∀ b, b < 4 → a ≠ b → (TX5 a).2.1 ≠ (TX5 b).2.1 := by decide +kernel
theorem tyX5_ok : ∀ k, k < 4 → parseFieldDescriptor (TX5 k).2.2.1 = some (tyX5 k) := by decide +kernel
abbrev cX5_init : ByteArray := prog_7_method_1_code
def yX5_init : MethodName := ⟨RX5, "<init>", "()V"⟩
abbrev cX5_readFrom : ByteArray := prog_7_method_2_code
def yX5_readFrom : MethodName := ⟨RX5, "readFrom", "(LSingingSaw$Tokens;)V"⟩
abbrev cX5_readCond : ByteArray := prog_7_method_3_code
def yX5_readCond : MethodName := ⟨RX5, "readCond", "(LSingingSaw$Tokens;I)V"⟩
abbrev cX5_readAll : ByteArray := prog_7_method_4_code
def yX5_readAll : MethodName := ⟨RX5, "readAll", "(LSingingSaw$Tokens;I)V"⟩
abbrev cX5_readOne : ByteArray := prog_7_method_5_code
def yX5_readOne : MethodName := ⟨RX5, "readOne", "(LSingingSaw$Tokens;I)V"⟩
abbrev cX5_leafAt : ByteArray := prog_7_method_6_code
def yX5_leafAt : MethodName := ⟨RX5, "leafAt", "(LSingingSaw$Tokens;)I"⟩
abbrev cX5_addStep : ByteArray := prog_7_method_7_code
def yX5_addStep : MethodName := ⟨RX5, "addStep", "(III)V"⟩
abbrev cX5_holds : ByteArray := prog_7_method_8_code
def yX5_holds : MethodName := ⟨RX5, "holds", "(LSingingSaw$Bent;I)Z"⟩
abbrev cX5_isSo : ByteArray := prog_7_method_9_code
def yX5_isSo : MethodName := ⟨RX5, "isSo", "(ILSingingSaw$Bent;I)Z"⟩
abbrev cX5_compares : ByteArray := prog_7_method_10_code
def yX5_compares : MethodName := ⟨RX5, "compares", "(II)Z"⟩
def RX6 : String := "SingingSaw$Song"
def TX6 : u_T := fun k => match k with
  | 0 => ("SingingSaw$Song", "costs", "[I", true)
  | 1 => ("SingingSaw$Song", "notes", "LSingingSaw$Row;", true)
  | _ => ("SingingSaw$Song", "bends", "LSingingSaw$Row;", true)
def tyX6 : Nat → FieldType := fun k => match k with
  | 0 => .array .int
  | 1 => .object "SingingSaw$Row"
  | _ => .object "SingingSaw$Row"
abbrev wsX60 : List Cond := u_ws RX6 TX6 3
theorem nmX6 : ∀ a, a < 3 → ∀ b, b < 3 → a ≠ b → (TX6 a).2.1 ≠ (TX6 b).2.1 := by decide +kernel
theorem tyX6_ok : ∀ k, k < 3 → parseFieldDescriptor (TX6 k).2.2.1 = some (tyX6 k) := by decide +kernel
abbrev cX6_init : ByteArray := prog_8_method_1_code
def yX6_init : MethodName := ⟨RX6, "<init>", "()V"⟩
abbrev cX6_readNotes : ByteArray := prog_8_method_2_code
def yX6_readNotes : MethodName := ⟨RX6, "readNotes", "(LSingingSaw$Tape;)Z"⟩
abbrev cX6_play : ByteArray := prog_8_method_3_code
def yX6_play : MethodName := ⟨RX6, "play", "(LSingingSaw$Book;LSingingSaw$Row;I)I"⟩
abbrev cX6_costFrom : ByteArray := prog_8_method_4_code
def yX6_costFrom : MethodName := ⟨RX6, "costFrom", "(LSingingSaw$Book;II)I"⟩
abbrev cX6_cheapestNext : ByteArray := prog_8_method_5_code
def yX6_cheapestNext : MethodName := ⟨RX6, "cheapestNext", "(LSingingSaw$Book;II)I"⟩
abbrev cX6_costAt : ByteArray := prog_8_method_6_code
def yX6_costAt : MethodName := ⟨RX6, "costAt", "(II)I"⟩
abbrev cX6_setCost : ByteArray := prog_8_method_7_code
def yX6_setCost : MethodName := ⟨RX6, "setCost", "(III)V"⟩
def RX7 : String := "SingingSaw$State"
def TX7 : u_T := fun k => match k with
  | 0 => ("SingingSaw$State", "blade", "LSingingSaw$Blade;", false)
  | 1 => ("SingingSaw$State", "hand", "LSingingSaw$Hand;", false)
  | 2 => ("SingingSaw$State", "sentence", "LSingingSaw$Sentence;", false)
  | 3 => ("SingingSaw$State", "book", "LSingingSaw$Book;", true)
  | _ => ("SingingSaw$State", "shelf", "[LSingingSaw$Blade;", true)
def tyX7 : Nat → FieldType := fun k => match k with
  | 0 => .object "SingingSaw$Blade"
  | 1 => .object "SingingSaw$Hand"
  | 2 => .object "SingingSaw$Sentence"
  | 3 => .object "SingingSaw$Book"
  | _ => .array (.object "SingingSaw$Blade")
abbrev wsX70 : List Cond := u_ws RX7 TX7 5
theorem nmX7 : ∀ a, a < 5 → ∀ b, b < 5 → a ≠ b → (TX7 a).2.1 ≠ (TX7 b).2.1 := by decide +kernel
theorem tyX7_ok : ∀ k, k < 5 → parseFieldDescriptor (TX7 k).2.2.1 = some (tyX7 k) := by decide +kernel
abbrev cX7_init : ByteArray := prog_9_method_1_code
def yX7_init : MethodName := ⟨RX7, "<init>", "(LSingingSaw$Blade;LSingingSaw$Hand;LSingingSaw$Sentence;)V"⟩
abbrev cX7_copyFrom : ByteArray := prog_9_method_2_code
def yX7_copyFrom : MethodName := ⟨RX7, "copyFrom", "(LSingingSaw$State;)V"⟩
def RX8 : String := "SingingSaw$Tape"
def TX8 : u_T := fun k => match k with
  | 0 => ("SingingSaw$Tape", "bytes", "[I", true)
  | _ => ("SingingSaw$Tape", "size", "I", false)
def tyX8 : Nat → FieldType := fun k => match k with
  | 0 => .array .int
  | _ => .int
abbrev wsX80 : List Cond := u_ws RX8 TX8 2
theorem nmX8 : ∀ a, a < 2 → ∀ b, b < 2 → a ≠ b → (TX8 a).2.1 ≠ (TX8 b).2.1 := by decide +kernel
theorem tyX8_ok : ∀ k, k < 2 → parseFieldDescriptor (TX8 k).2.2.1 = some (tyX8 k) := by decide +kernel
abbrev cX8_init : ByteArray := prog_10_method_1_code
def yX8_init : MethodName := ⟨RX8, "<init>", "()V"⟩
abbrev cX8_append : ByteArray := prog_10_method_2_code
def yX8_append : MethodName := ⟨RX8, "append", "(I)V"⟩
abbrev cX8_byteAt : ByteArray := prog_10_method_3_code
def yX8_byteAt : MethodName := ⟨RX8, "byteAt", "(I)I"⟩
abbrev cX8_pairAt : ByteArray := prog_10_method_4_code
def yX8_pairAt : MethodName := ⟨RX8, "pairAt", "(I)I"⟩
def RX9 : String := "SingingSaw$Tokens"
def TX9 : u_T := fun k => match k with
  | 0 => ("SingingSaw$Tokens", "tape", "LSingingSaw$Tape;", true)
  | 1 => ("SingingSaw$Tokens", "limit", "I", false)
  | 2 => ("SingingSaw$Tokens", "kind", "I", false)
  | 3 => ("SingingSaw$Tokens", "start", "I", false)
  | 4 => ("SingingSaw$Tokens", "stop", "I", false)
  | 5 => ("SingingSaw$Tokens", "value", "I", false)
  | 6 => ("SingingSaw$Tokens", "fault", "I", false)
  | _ => ("SingingSaw$Tokens", "faultPlace", "I", false)
def tyX9 : Nat → FieldType := fun k => match k with
  | 0 => .object "SingingSaw$Tape"
  | 1 => .int
  | 2 => .int
  | 3 => .int
  | 4 => .int
  | 5 => .int
  | 6 => .int
  | _ => .int
abbrev wsX90 : List Cond := u_ws RX9 TX9 8
theorem nmX9 : ∀ a, a < 8 → ∀ b, b < 8 → a ≠ b → (TX9 a).2.1 ≠ (TX9 b).2.1 := by decide +kernel
theorem tyX9_ok : ∀ k, k < 8 → parseFieldDescriptor (TX9 k).2.2.1 = some (tyX9 k) := by decide +kernel
abbrev cX9_init : ByteArray := prog_11_method_1_code
def yX9_init : MethodName := ⟨RX9, "<init>", "(LSingingSaw$Tape;)V"⟩
abbrev cX9_open : ByteArray := prog_11_method_2_code
def yX9_open : MethodName := ⟨RX9, "open", "(I)V"⟩
abbrev cX9_advance : ByteArray := prog_11_method_3_code
def yX9_advance : MethodName := ⟨RX9, "advance", "()V"⟩
abbrev cX9_kindOfRun : ByteArray := prog_11_method_4_code
def yX9_kindOfRun : MethodName := ⟨RX9, "kindOfRun", "(II)I"⟩
abbrev cX9_isBlank : ByteArray := prog_11_method_5_code
def yX9_isBlank : MethodName := ⟨RX9, "isBlank", "(I)Z"⟩
abbrev cX9_isOfRun : ByteArray := prog_11_method_6_code
def yX9_isOfRun : MethodName := ⟨RX9, "isOfRun", "(I)Z"⟩
abbrev cX9_isSignByte : ByteArray := prog_11_method_7_code
def yX9_isSignByte : MethodName := ⟨RX9, "isSignByte", "(I)Z"⟩
abbrev cX9_fail : ByteArray := prog_11_method_8_code
def yX9_fail : MethodName := ⟨RX9, "fail", "(I)V"⟩
abbrev cX9_isGoingOn : ByteArray := prog_11_method_9_code
def yX9_isGoingOn : MethodName := ⟨RX9, "isGoingOn", "()Z"⟩
abbrev cX9_isWord : ByteArray := prog_11_method_10_code
def yX9_isWord : MethodName := ⟨RX9, "isWord", "(Ljava/lang/String;)Z"⟩
abbrev cX9_isSign : ByteArray := prog_11_method_11_code
def yX9_isSign : MethodName := ⟨RX9, "isSign", "(I)Z"⟩
abbrev cX9_skipWord : ByteArray := prog_11_method_12_code
def yX9_skipWord : MethodName := ⟨RX9, "skipWord", "(Ljava/lang/String;)Z"⟩
abbrev cX9_skipSign : ByteArray := prog_11_method_13_code
def yX9_skipSign : MethodName := ⟨RX9, "skipSign", "(I)Z"⟩
abbrev cX9_mustBeSign : ByteArray := prog_11_method_14_code
def yX9_mustBeSign : MethodName := ⟨RX9, "mustBeSign", "(I)V"⟩
abbrev cX9_mustBeWord : ByteArray := prog_11_method_15_code
def yX9_mustBeWord : MethodName := ⟨RX9, "mustBeWord", "(Ljava/lang/String;)V"⟩
abbrev cX9_comparison : ByteArray := prog_11_method_16_code
def yX9_comparison : MethodName := ⟨RX9, "comparison", "()I"⟩
abbrev cX9_number : ByteArray := prog_11_method_17_code
def yX9_number : MethodName := ⟨RX9, "number", "(III)I"⟩
def RX10 : String := "SingingSaw$Tone"
def TX10 : u_T := fun k => match k with
  | 0 => ("SingingSaw$Tone", "strengths", "LSingingSaw$Row;", true)
  | 1 => ("SingingSaw$Tone", "pitch", "I", false)
  | 2 => ("SingingSaw$Tone", "first", "I", false)
  | 3 => ("SingingSaw$Tone", "last", "I", false)
  | 4 => ("SingingSaw$Tone", "rings", "I", false)
  | 5 => ("SingingSaw$Tone", "kept", "Z", false)
  | _ => ("SingingSaw$Tone", "twice", "Z", false)
def tyX10 : Nat → FieldType := fun k => match k with
  | 0 => .object "SingingSaw$Row"
  | 1 => .int
  | 2 => .int
  | 3 => .int
  | 4 => .int
  | 5 => .boolean
  | _ => .boolean
abbrev wsX100 : List Cond := u_ws RX10 TX10 7
theorem nmX10 : ∀ a, a < 7 → ∀ b, b < 7 → a ≠ b → (TX10 a).2.1 ≠ (TX10 b).2.1 := by decide +kernel
theorem tyX10_ok : ∀ k, k < 7 → parseFieldDescriptor (TX10 k).2.2.1 = some (tyX10 k) := by decide +kernel
abbrev cX10_init : ByteArray := prog_12_method_1_code
def yX10_init : MethodName := ⟨RX10, "<init>", "()V"⟩
def RX11 : String := "SingingSaw"
def TX11 : u_T := fun k => match k with
  | 0 => ("SingingSaw", "tape", "LSingingSaw$Tape;", true)
  | 1 => ("SingingSaw", "tokens", "LSingingSaw$Tokens;", true)
  | 2 => ("SingingSaw", "now", "LSingingSaw$State;", true)
  | 3 => ("SingingSaw", "images", "[LSingingSaw$State;", true)
  | 4 => ("SingingSaw", "trial", "LSingingSaw$Blade;", true)
  | 5 => ("SingingSaw", "bent", "LSingingSaw$Bent;", true)
  | 6 => ("SingingSaw", "latest", "LSingingSaw$Tone;", true)
  | 7 => ("SingingSaw", "wanted", "LSingingSaw$Tone;", true)
  | 8 => ("SingingSaw", "shunned", "LSingingSaw$Tone;", true)
  | 9 => ("SingingSaw", "tune", "LSingingSaw$Song;", true)
  | 10 => ("SingingSaw", "found", "LSingingSaw$Row;", true)
  | 11 => ("SingingSaw", "steps", "LSingingSaw$Row;", true)
  | 12 => ("SingingSaw", "partVoices", "LSingingSaw$Row;", true)
  | 13 => ("SingingSaw", "bookVoices", "LSingingSaw$Row;", true)
  | 14 => ("SingingSaw", "bookPieces", "LSingingSaw$Row;", true)
  | 15 => ("SingingSaw", "trueTicks", "LSingingSaw$Row;", true)
  | 16 => ("SingingSaw", "faultKind", "I", false)
  | 17 => ("SingingSaw", "bestWorth", "I", false)
  | _ => ("SingingSaw", "formRange", "I", false)
def tyX11 : Nat → FieldType := fun k => match k with
  | 0 => .object "SingingSaw$Tape"
  | 1 => .object "SingingSaw$Tokens"
  | 2 => .object "SingingSaw$State"
  | 3 => .array (.object "SingingSaw$State")
  | 4 => .object "SingingSaw$Blade"
  | 5 => .object "SingingSaw$Bent"
  | 6 => .object "SingingSaw$Tone"
  | 7 => .object "SingingSaw$Tone"
  | 8 => .object "SingingSaw$Tone"
  | 9 => .object "SingingSaw$Song"
  | 10 => .object "SingingSaw$Row"
  | 11 => .object "SingingSaw$Row"
  | 12 => .object "SingingSaw$Row"
  | 13 => .object "SingingSaw$Row"
  | 14 => .object "SingingSaw$Row"
  | 15 => .object "SingingSaw$Row"
  | 16 => .int
  | 17 => .int
  | _ => .int
abbrev wsX110 : List Cond := u_ws RX11 TX11 19
theorem nmX11 : ∀ a, a < 19 → ∀ b, b < 19 → a ≠ b → (TX11 a).2.1 ≠ (TX11 b).2.1 := by decide +kernel
theorem tyX11_ok : ∀ k, k < 19 → parseFieldDescriptor (TX11 k).2.2.1 = some (tyX11 k) := by decide +kernel
abbrev cX11_init : ByteArray := prog_1_method_1_code
def yX11_init : MethodName := ⟨RX11, "<init>", "()V"⟩
abbrev cX11_feed : ByteArray := prog_1_method_2_code
def yX11_feed : MethodName := ⟨RX11, "feed", "(IIIII)I"⟩
abbrev cX11_end : ByteArray := prog_1_method_3_code
def yX11_end : MethodName := ⟨RX11, "end", "(I)Z"⟩
abbrev cX11_blade : ByteArray := prog_1_method_4_code
def yX11_blade : MethodName := ⟨RX11, "blade", "()I"⟩
abbrev cX11_fault : ByteArray := prog_1_method_5_code
def yX11_fault : MethodName := ⟨RX11, "fault", "()I"⟩
abbrev cX11_piece : ByteArray := prog_1_method_6_code
def yX11_piece : MethodName := ⟨RX11, "piece", "(II)I"⟩
abbrev cX11_bend : ByteArray := prog_1_method_7_code
def yX11_bend : MethodName := ⟨RX11, "bend", "(IIII)I"⟩
abbrev cX11_breaks : ByteArray := prog_1_method_8_code
def yX11_breaks : MethodName := ⟨RX11, "breaks", "(II)I"⟩
abbrev cX11_place : ByteArray := prog_1_method_9_code
def yX11_place : MethodName := ⟨RX11, "place", "(III)I"⟩
abbrev cX11_tone : ByteArray := prog_1_method_10_code
def yX11_tone : MethodName := ⟨RX11, "tone", "(IIII)I"⟩
abbrev cX11_run : ByteArray := prog_1_method_11_code
def yX11_run : MethodName := ⟨RX11, "run", "(I)I"⟩
abbrev cX11_bow : ByteArray := prog_1_method_12_code
def yX11_bow : MethodName := ⟨RX11, "bow", "(I)I"⟩
abbrev cX11_where : ByteArray := prog_1_method_13_code
def yX11_where : MethodName := ⟨RX11, "where", "(IIIII)I"⟩
abbrev cX11_worth : ByteArray := prog_1_method_14_code
def yX11_worth : MethodName := ⟨RX11, "worth", "()I"⟩
abbrev cX11_hand : ByteArray := prog_1_method_15_code
def yX11_hand : MethodName := ⟨RX11, "hand", "()I"⟩
abbrev cX11_tick : ByteArray := prog_1_method_16_code
def yX11_tick : MethodName := ⟨RX11, "tick", "(II)I"⟩
abbrev cX11_write : ByteArray := prog_1_method_17_code
def yX11_write : MethodName := ⟨RX11, "write", "(II)I"⟩
abbrev cX11_voice : ByteArray := prog_1_method_18_code
def yX11_voice : MethodName := ⟨RX11, "voice", "(II)I"⟩
abbrev cX11_range : ByteArray := prog_1_method_19_code
def yX11_range : MethodName := ⟨RX11, "range", "(I)I"⟩
abbrev cX11_song : ByteArray := prog_1_method_20_code
def yX11_song : MethodName := ⟨RX11, "song", "(I)I"⟩
abbrev cX11_songAt : ByteArray := prog_1_method_21_code
def yX11_songAt : MethodName := ⟨RX11, "songAt", "(I)I"⟩
abbrev cX11_read : ByteArray := prog_1_method_22_code
def yX11_read : MethodName := ⟨RX11, "read", "(II)I"⟩
abbrev cX11_readAt : ByteArray := prog_1_method_23_code
def yX11_readAt : MethodName := ⟨RX11, "readAt", "(I)I"⟩
abbrev cX11_even : ByteArray := prog_1_method_24_code
def yX11_even : MethodName := ⟨RX11, "even", "(III)I"⟩
abbrev cX11_evenAt : ByteArray := prog_1_method_25_code
def yX11_evenAt : MethodName := ⟨RX11, "evenAt", "(I)I"⟩
abbrev cX11_tremble : ByteArray := prog_1_method_26_code
def yX11_tremble : MethodName := ⟨RX11, "tremble", "(III)I"⟩
abbrev cX11_keep : ByteArray := prog_1_method_27_code
def yX11_keep : MethodName := ⟨RX11, "keep", "(I)Z"⟩
abbrev cX11_take : ByteArray := prog_1_method_28_code
def yX11_take : MethodName := ⟨RX11, "take", "(I)Z"⟩
abbrev cX11_which : ByteArray := prog_1_method_29_code
def yX11_which : MethodName := ⟨RX11, "which", "(I)I"⟩
abbrev cX11_form : ByteArray := prog_1_method_30_code
def yX11_form : MethodName := ⟨RX11, "form", "(II)I"⟩
abbrev cX11_formBy : ByteArray := prog_1_method_31_code
def yX11_formBy : MethodName := ⟨RX11, "formBy", "()I"⟩
abbrev cX11_forge : ByteArray := prog_1_method_32_code
def yX11_forge : MethodName := ⟨RX11, "forge", "(II)Z"⟩
abbrev cX11_sentence : ByteArray := prog_1_method_33_code
def yX11_sentence : MethodName := ⟨RX11, "sentence", "()I"⟩
abbrev cX11_said : ByteArray := prog_1_method_34_code
def yX11_said : MethodName := ⟨RX11, "said", "(I)I"⟩
abbrev cX11_image : ByteArray := prog_1_method_35_code
def yX11_image : MethodName := ⟨RX11, "image", "(I)Z"⟩
abbrev cX11_restore : ByteArray := prog_1_method_36_code
def yX11_restore : MethodName := ⟨RX11, "restore", "(I)Z"⟩
abbrev cX11_count : ByteArray := prog_1_method_37_code
def yX11_count : MethodName := ⟨RX11, "count", "(I)I"⟩
abbrev cX11_closeText : ByteArray := prog_1_method_38_code
def yX11_closeText : MethodName := ⟨RX11, "closeText", "(I)I"⟩
abbrev cX11_forgetAnswers : ByteArray := prog_1_method_39_code
def yX11_forgetAnswers : MethodName := ⟨RX11, "forgetAnswers", "()V"⟩
abbrev cX11_listenTo : ByteArray := prog_1_method_40_code
def yX11_listenTo : MethodName := ⟨RX11, "listenTo", "(LSingingSaw$Blade;II)V"⟩
abbrev cX11_hearBook : ByteArray := prog_1_method_41_code
def yX11_hearBook : MethodName := ⟨RX11, "hearBook", "()V"⟩
abbrev cX11_hearParts : ByteArray := prog_1_method_42_code
def yX11_hearParts : MethodName := ⟨RX11, "hearParts", "(II)V"⟩
abbrev cX11_nearestPart : ByteArray := prog_1_method_43_code
def yX11_nearestPart : MethodName := ⟨RX11, "nearestPart", "(I)I"⟩
abbrev cX11_askTicks : ByteArray := prog_1_method_44_code
def yX11_askTicks : MethodName := ⟨RX11, "askTicks", "()V"⟩
abbrev cX11_tellsTones : ByteArray := prog_1_method_45_code
def yX11_tellsTones : MethodName := ⟨RX11, "tellsTones", "()Z"⟩
abbrev cX11_isFitting : ByteArray := prog_1_method_46_code
def yX11_isFitting : MethodName := ⟨RX11, "isFitting", "(LSingingSaw$Blade;I)Z"⟩
abbrev cX11_rangeOfTrial : ByteArray := prog_1_method_47_code
def yX11_rangeOfTrial : MethodName := ⟨RX11, "rangeOfTrial", "()I"⟩
abbrev cX11_isBend : ByteArray := prog_1_method_48_code
def yX11_isBend : MethodName := ⟨RX11, "isBend", "(II)Z"⟩
abbrev cX11_isTone : ByteArray := prog_1_method_49_code
def yX11_isTone : MethodName := ⟨RX11, "isTone", "(I)Z"⟩
abbrev cX11_isSlip : ByteArray := prog_1_method_50_code
def yX11_isSlip : MethodName := ⟨RX11, "isSlip", "(I)Z"⟩
abbrev cX11_isNear : ByteArray := prog_1_method_51_code
def yX11_isNear : MethodName := ⟨RX11, "isNear", "(III)Z"⟩
abbrev cX11_signed : ByteArray := prog_1_method_52_code
def yX11_signed : MethodName := ⟨RX11, "signed", "(ZI)I"⟩
abbrev cX11_within : ByteArray := prog_1_method_53_code
def yX11_within : MethodName := ⟨RX11, "within", "(II)I"⟩
def RX12 : String := "SingingSawModel"
def TX12 : u_T := fun k => match k with
  | 0 => ("SingingSawModel", "thrown", "I", false)
  | 1 => ("SingingSawModel", "tape", "[I", true)
  | 2 => ("SingingSawModel", "taped", "I", false)
  | 3 => ("SingingSawModel", "size", "I", false)
  | 4 => ("SingingSawModel", "limit", "I", false)
  | 5 => ("SingingSawModel", "to", "I", false)
  | 6 => ("SingingSawModel", "from", "I", false)
  | 7 => ("SingingSawModel", "kind", "I", false)
  | 8 => ("SingingSawModel", "number", "I", false)
  | 9 => ("SingingSawModel", "sign", "I", false)
  | 10 => ("SingingSawModel", "fault", "I", false)
  | 11 => ("SingingSawModel", "at", "I", false)
  | 12 => ("SingingSawModel", "word", "J", false)
  | 13 => ("SingingSawModel", "told", "I", false)
  | 14 => ("SingingSawModel", "now", "[I", true)
  | 15 => ("SingingSawModel", "read", "[I", true)
  | 16 => ("SingingSawModel", "kept", "[I", true)
  | 17 => ("SingingSawModel", "ticksA", "[I", true)
  | 18 => ("SingingSawModel", "ticksB", "[I", true)
  | 19 => ("SingingSawModel", "isKept", "[Z", true)
  | 20 => ("SingingSawModel", "isBegun", "Z", false)
  | 21 => ("SingingSawModel", "had", "I", false)
  | 22 => ("SingingSawModel", "curve", "[I", true)
  | 23 => ("SingingSawModel", "wall", "[I", true)
  | 24 => ("SingingSawModel", "strain", "[I", true)
  | 25 => ("SingingSawModel", "places", "[I", true)
  | 26 => ("SingingSawModel", "isPlace", "[Z", true)
  | 27 => ("SingingSawModel", "many", "I", false)
  | 28 => ("SingingSawModel", "unit", "I", false)
  | 29 => ("SingingSawModel", "placeMany", "I", false)
  | 30 => ("SingingSawModel", "firstBreak", "I", false)
  | 31 => ("SingingSawModel", "mostStrain", "I", false)
  | 32 => ("SingingSawModel", "runFrom", "I", false)
  | 33 => ("SingingSawModel", "runTo", "I", false)
  | 34 => ("SingingSawModel", "told5", "[I", true)
  | 35 => ("SingingSawModel", "bowed", "[I", true)
  | 36 => ("SingingSawModel", "other", "[I", true)
  | 37 => ("SingingSawModel", "bowedMany", "I", false)
  | 38 => ("SingingSawModel", "worth", "I", false)
  | 39 => ("SingingSawModel", "voiceTone", "I", false)
  | 40 => ("SingingSawModel", "voicePiece", "I", false)
  | 41 => ("SingingSawModel", "voiceRings", "I", false)
  | 42 => ("SingingSawModel", "voiceTwice", "Z", false)
  | 43 => ("SingingSawModel", "readTicks", "I", false)
  | 44 => ("SingingSawModel", "handA", "I", false)
  | 45 => ("SingingSawModel", "handB", "I", false)
  | 46 => ("SingingSawModel", "sung", "[I", true)
  | 47 => ("SingingSawModel", "note", "[I", true)
  | 48 => ("SingingSawModel", "left", "[I", true)
  | 49 => ("SingingSawModel", "songRow", "[I", true)
  | 50 => ("SingingSawModel", "songMany", "I", false)
  | 51 => ("SingingSawModel", "found", "[I", true)
  | 52 => ("SingingSawModel", "foundMany", "I", false)
  | 53 => ("SingingSawModel", "part", "[I", true)
  | 54 => ("SingingSawModel", "evenRow", "[I", true)
  | 55 => ("SingingSawModel", "evenMany", "I", false)
  | 56 => ("SingingSawModel", "formRange", "I", false)
  | 57 => ("SingingSawModel", "node", "[I", true)
  | 58 => ("SingingSawModel", "nodes", "I", false)
  | 59 => ("SingingSawModel", "ones", "I", false)
  | 60 => ("SingingSawModel", "within", "I", false)
  | _ => ("SingingSawModel", "top", "I", false)
def tyX12 : Nat → FieldType := fun k => match k with
  | 0 => .int
  | 1 => .array .int
  | 2 => .int
  | 3 => .int
  | 4 => .int
  | 5 => .int
  | 6 => .int
  | 7 => .int
  | 8 => .int
  | 9 => .int
  | 10 => .int
  | 11 => .int
  | 12 => .long
  | 13 => .int
  | 14 => .array .int
  | 15 => .array .int
  | 16 => .array .int
  | 17 => .array .int
  | 18 => .array .int
  | 19 => .array .boolean
  | 20 => .boolean
  | 21 => .int
  | 22 => .array .int
  | 23 => .array .int
  | 24 => .array .int
  | 25 => .array .int
  | 26 => .array .boolean
  | 27 => .int
  | 28 => .int
  | 29 => .int
  | 30 => .int
  | 31 => .int
  | 32 => .int
  | 33 => .int
  | 34 => .array .int
  | 35 => .array .int
  | 36 => .array .int
  | 37 => .int
  | 38 => .int
  | 39 => .int
  | 40 => .int
  | 41 => .int
  | 42 => .boolean
  | 43 => .int
  | 44 => .int
  | 45 => .int
  | 46 => .array .int
  | 47 => .array .int
  | 48 => .array .int
  | 49 => .array .int
  | 50 => .int
  | 51 => .array .int
  | 52 => .int
  | 53 => .array .int
  | 54 => .array .int
  | 55 => .int
  | 56 => .int
  | 57 => .array .int
  | 58 => .int
  | 59 => .int
  | 60 => .int
  | _ => .int
abbrev wsX120 : List Cond := u_ws RX12 TX12 62
theorem nmX12 : ∀ a, a < 62 → ∀ b, b < 62 → a ≠ b → (TX12 a).2.1 ≠ (TX12 b).2.1 := by decide +kernel
theorem tyX12_ok : ∀ k, k < 62 → parseFieldDescriptor (TX12 k).2.2.1 = some (tyX12 k) := by decide +kernel
abbrev cX12_init : ByteArray := prog_14_method_1_code
def yX12_init : MethodName := ⟨RX12, "<init>", "()V"⟩
abbrev cX12_thrown : ByteArray := prog_14_method_2_code
def yX12_thrown : MethodName := ⟨RX12, "thrown", "()I"⟩
abbrev cX12_refuse : ByteArray := prog_14_method_3_code
def yX12_refuse : MethodName := ⟨RX12, "refuse", "()I"⟩
abbrev cX12_come : ByteArray := prog_14_method_4_code
def yX12_come : MethodName := ⟨RX12, "come", "(I)V"⟩
abbrev cX12_feed : ByteArray := prog_14_method_5_code
def yX12_feed : MethodName := ⟨RX12, "feed", "(IIIII)I"⟩
abbrev cX12_end : ByteArray := prog_14_method_6_code
def yX12_end : MethodName := ⟨RX12, "end", "(I)Z"⟩
abbrev cX12_takeTape : ByteArray := prog_14_method_7_code
def yX12_takeTape : MethodName := ⟨RX12, "takeTape", "()I"⟩
abbrev cX12_isIn : ByteArray := prog_14_method_8_code
def yX12_isIn : MethodName := ⟨RX12, "isIn", "(III)Z"⟩
abbrev cX12_byteAt : ByteArray := prog_14_method_9_code
def yX12_byteAt : MethodName := ⟨RX12, "byteAt", "(I)I"⟩
abbrev cX12_isDigit : ByteArray := prog_14_method_10_code
def yX12_isDigit : MethodName := ⟨RX12, "isDigit", "(I)Z"⟩
abbrev cX12_isLetter : ByteArray := prog_14_method_11_code
def yX12_isLetter : MethodName := ⟨RX12, "isLetter", "(I)Z"⟩
abbrev cX12_go : ByteArray := prog_14_method_12_code
def yX12_go : MethodName := ⟨RX12, "go", "()V"⟩
abbrev cX12_spelt : ByteArray := prog_14_method_13_code
def yX12_spelt : MethodName := ⟨RX12, "spelt", "(IIII)J"⟩
abbrev cX12_on : ByteArray := prog_14_method_14_code
def yX12_on : MethodName := ⟨RX12, "on", "(JII)J"⟩
abbrev cX12_wordOf : ByteArray := prog_14_method_15_code
def yX12_wordOf : MethodName := ⟨RX12, "wordOf", "(I)J"⟩
abbrev cX12_isWord : ByteArray := prog_14_method_16_code
def yX12_isWord : MethodName := ⟨RX12, "isWord", "(I)Z"⟩
abbrev cX12_isSign : ByteArray := prog_14_method_17_code
def yX12_isSign : MethodName := ⟨RX12, "isSign", "(I)Z"⟩
abbrev cX12_bad : ByteArray := prog_14_method_18_code
def yX12_bad : MethodName := ⟨RX12, "bad", "(I)Z"⟩
abbrev cX12_readNumber : ByteArray := prog_14_method_19_code
def yX12_readNumber : MethodName := ⟨RX12, "readNumber", "(II)Z"⟩
abbrev cX12_readSigned : ByteArray := prog_14_method_20_code
def yX12_readSigned : MethodName := ⟨RX12, "readSigned", "(I)Z"⟩
abbrev cX12_readWord : ByteArray := prog_14_method_21_code
def yX12_readWord : MethodName := ⟨RX12, "readWord", "(I)Z"⟩
abbrev cX12_readEnd : ByteArray := prog_14_method_22_code
def yX12_readEnd : MethodName := ⟨RX12, "readEnd", "()Z"⟩
abbrev cX12_begin : ByteArray := prog_14_method_23_code
def yX12_begin : MethodName := ⟨RX12, "begin", "(I)V"⟩
abbrev cX12_lay : ByteArray := prog_14_method_24_code
def yX12_lay : MethodName := ⟨RX12, "lay", "()V"⟩
abbrev cX12_readLine : ByteArray := prog_14_method_25_code
def yX12_readLine : MethodName := ⟨RX12, "readLine", "()Z"⟩
abbrev cX12_blade : ByteArray := prog_14_method_26_code
def yX12_blade : MethodName := ⟨RX12, "blade", "()I"⟩
abbrev cX12_fault : ByteArray := prog_14_method_27_code
def yX12_fault : MethodName := ⟨RX12, "fault", "()I"⟩
abbrev cX12_pieces : ByteArray := prog_14_method_28_code
def yX12_pieces : MethodName := ⟨RX12, "pieces", "()I"⟩
abbrev cX12_piece : ByteArray := prog_14_method_29_code
def yX12_piece : MethodName := ⟨RX12, "piece", "(II)I"⟩
abbrev cX12_stiffness : ByteArray := prog_14_method_30_code
def yX12_stiffness : MethodName := ⟨RX12, "stiffness", "(III)I"⟩
abbrev cX12_layBend : ByteArray := prog_14_method_31_code
def yX12_layBend : MethodName := ⟨RX12, "layBend", "(IIIII)V"⟩
abbrev cX12_isShutIn : ByteArray := prog_14_method_32_code
def yX12_isShutIn : MethodName := ⟨RX12, "isShutIn", "(I)Z"⟩
abbrev cX12_isBend : ByteArray := prog_14_method_33_code
def yX12_isBend : MethodName := ⟨RX12, "isBend", "(II)Z"⟩
abbrev cX12_bend : ByteArray := prog_14_method_34_code
def yX12_bend : MethodName := ⟨RX12, "bend", "(IIII)I"⟩
abbrev cX12_breaks : ByteArray := prog_14_method_35_code
def yX12_breaks : MethodName := ⟨RX12, "breaks", "(II)I"⟩
abbrev cX12_place : ByteArray := prog_14_method_36_code
def yX12_place : MethodName := ⟨RX12, "place", "(III)I"⟩
abbrev cX12_root : ByteArray := prog_14_method_37_code
def yX12_root : MethodName := ⟨RX12, "root", "(I)I"⟩
abbrev cX12_phases : ByteArray := prog_14_method_38_code
def yX12_phases : MethodName := ⟨RX12, "phases", "(II)I"⟩
abbrev cX12_toneOf : ByteArray := prog_14_method_39_code
def yX12_toneOf : MethodName := ⟨RX12, "toneOf", "(II)I"⟩
abbrev cX12_isShut : ByteArray := prog_14_method_40_code
def yX12_isShut : MethodName := ⟨RX12, "isShut", "()Z"⟩
abbrev cX12_isTwice : ByteArray := prog_14_method_41_code
def yX12_isTwice : MethodName := ⟨RX12, "isTwice", "(I)Z"⟩
abbrev cX12_rings : ByteArray := prog_14_method_42_code
def yX12_rings : MethodName := ⟨RX12, "rings", "(I)I"⟩
abbrev cX12_strengthAt : ByteArray := prog_14_method_43_code
def yX12_strengthAt : MethodName := ⟨RX12, "strengthAt", "(II)I"⟩
abbrev cX12_tone : ByteArray := prog_14_method_44_code
def yX12_tone : MethodName := ⟨RX12, "tone", "(IIII)I"⟩
abbrev cX12_run : ByteArray := prog_14_method_45_code
def yX12_run : MethodName := ⟨RX12, "run", "(I)I"⟩
abbrev cX12_bow : ByteArray := prog_14_method_46_code
def yX12_bow : MethodName := ⟨RX12, "bow", "(I)I"⟩
abbrev cX12_where : ByteArray := prog_14_method_47_code
def yX12_where : MethodName := ⟨RX12, "where", "(IIIII)I"⟩
abbrev cX12_worth : ByteArray := prog_14_method_48_code
def yX12_worth : MethodName := ⟨RX12, "worth", "()I"⟩
abbrev cX12_voiceBy : ByteArray := prog_14_method_49_code
def yX12_voiceBy : MethodName := ⟨RX12, "voiceBy", "(IIIII)I"⟩
abbrev cX12_voiceOf : ByteArray := prog_14_method_50_code
def yX12_voiceOf : MethodName := ⟨RX12, "voiceOf", "(II)I"⟩
abbrev cX12_readTime : ByteArray := prog_14_method_51_code
def yX12_readTime : MethodName := ⟨RX12, "readTime", "()Z"⟩
abbrev cX12_readLast : ByteArray := prog_14_method_52_code
def yX12_readLast : MethodName := ⟨RX12, "readLast", "()Z"⟩
abbrev cX12_tickTo : ByteArray := prog_14_method_53_code
def yX12_tickTo : MethodName := ⟨RX12, "tickTo", "(II)V"⟩
abbrev cX12_cut : ByteArray := prog_14_method_54_code
def yX12_cut : MethodName := ⟨RX12, "cut", "(I)I"⟩
abbrev cX12_readStep : ByteArray := prog_14_method_55_code
def yX12_readStep : MethodName := ⟨RX12, "readStep", "()Z"⟩
abbrev cX12_hand : ByteArray := prog_14_method_56_code
def yX12_hand : MethodName := ⟨RX12, "hand", "()I"⟩
abbrev cX12_tick : ByteArray := prog_14_method_57_code
def yX12_tick : MethodName := ⟨RX12, "tick", "(II)I"⟩
abbrev cX12_bends : ByteArray := prog_14_method_58_code
def yX12_bends : MethodName := ⟨RX12, "bends", "()I"⟩
abbrev cX12_aOf : ByteArray := prog_14_method_59_code
def yX12_aOf : MethodName := ⟨RX12, "aOf", "(I)I"⟩
abbrev cX12_bOf : ByteArray := prog_14_method_60_code
def yX12_bOf : MethodName := ⟨RX12, "bOf", "(I)I"⟩
abbrev cX12_write : ByteArray := prog_14_method_61_code
def yX12_write : MethodName := ⟨RX12, "write", "(II)I"⟩
abbrev cX12_isWritten : ByteArray := prog_14_method_62_code
def yX12_isWritten : MethodName := ⟨RX12, "isWritten", "(I)Z"⟩
abbrev cX12_voice : ByteArray := prog_14_method_63_code
def yX12_voice : MethodName := ⟨RX12, "voice", "(II)I"⟩
abbrev cX12_sing : ByteArray := prog_14_method_64_code
def yX12_sing : MethodName := ⟨RX12, "sing", "()V"⟩
abbrev cX12_range : ByteArray := prog_14_method_65_code
def yX12_range : MethodName := ⟨RX12, "range", "(I)I"⟩
abbrev cX12_size : ByteArray := prog_14_method_66_code
def yX12_size : MethodName := ⟨RX12, "size", "(I)I"⟩
abbrev cX12_isNear : ByteArray := prog_14_method_67_code
def yX12_isNear : MethodName := ⟨RX12, "isNear", "(III)Z"⟩
abbrev cX12_way : ByteArray := prog_14_method_68_code
def yX12_way : MethodName := ⟨RX12, "way", "(II)I"⟩
abbrev cX12_song : ByteArray := prog_14_method_69_code
def yX12_song : MethodName := ⟨RX12, "song", "(I)I"⟩
abbrev cX12_songAt : ByteArray := prog_14_method_70_code
def yX12_songAt : MethodName := ⟨RX12, "songAt", "(I)I"⟩
abbrev cX12_read : ByteArray := prog_14_method_71_code
def yX12_read : MethodName := ⟨RX12, "read", "(II)I"⟩
abbrev cX12_readAt : ByteArray := prog_14_method_72_code
def yX12_readAt : MethodName := ⟨RX12, "readAt", "(I)I"⟩
abbrev cX12_even : ByteArray := prog_14_method_73_code
def yX12_even : MethodName := ⟨RX12, "even", "(III)I"⟩
abbrev cX12_evenAt : ByteArray := prog_14_method_74_code
def yX12_evenAt : MethodName := ⟨RX12, "evenAt", "(I)I"⟩
abbrev cX12_tremble : ByteArray := prog_14_method_75_code
def yX12_tremble : MethodName := ⟨RX12, "tremble", "(III)I"⟩
abbrev cX12_keep : ByteArray := prog_14_method_76_code
def yX12_keep : MethodName := ⟨RX12, "keep", "(I)Z"⟩
abbrev cX12_isThere : ByteArray := prog_14_method_77_code
def yX12_isThere : MethodName := ⟨RX12, "isThere", "(I)Z"⟩
abbrev cX12_take : ByteArray := prog_14_method_78_code
def yX12_take : MethodName := ⟨RX12, "take", "(I)Z"⟩
abbrev cX12_isBladeOf : ByteArray := prog_14_method_79_code
def yX12_isBladeOf : MethodName := ⟨RX12, "isBladeOf", "(III)Z"⟩
abbrev cX12_which : ByteArray := prog_14_method_80_code
def yX12_which : MethodName := ⟨RX12, "which", "(I)I"⟩
abbrev cX12_rangeBy : ByteArray := prog_14_method_81_code
def yX12_rangeBy : MethodName := ⟨RX12, "rangeBy", "(II)I"⟩
abbrev cX12_form : ByteArray := prog_14_method_82_code
def yX12_form : MethodName := ⟨RX12, "form", "(II)I"⟩
abbrev cX12_formBy : ByteArray := prog_14_method_83_code
def yX12_formBy : MethodName := ⟨RX12, "formBy", "()I"⟩
abbrev cX12_forge : ByteArray := prog_14_method_84_code
def yX12_forge : MethodName := ⟨RX12, "forge", "(II)Z"⟩
abbrev cX12_lays : ByteArray := prog_14_method_85_code
def yX12_lays : MethodName := ⟨RX12, "lays", "(IIII)I"⟩
abbrev cX12_readOr : ByteArray := prog_14_method_86_code
def yX12_readOr : MethodName := ⟨RX12, "readOr", "()Z"⟩
abbrev cX12_readAnd : ByteArray := prog_14_method_87_code
def yX12_readAnd : MethodName := ⟨RX12, "readAnd", "()Z"⟩
abbrev cX12_readOne : ByteArray := prog_14_method_88_code
def yX12_readOne : MethodName := ⟨RX12, "readOne", "()Z"⟩
abbrev cX12_readNot : ByteArray := prog_14_method_89_code
def yX12_readNot : MethodName := ⟨RX12, "readNot", "()Z"⟩
abbrev cX12_readBracket : ByteArray := prog_14_method_90_code
def yX12_readBracket : MethodName := ⟨RX12, "readBracket", "()Z"⟩
abbrev cX12_readCompare : ByteArray := prog_14_method_91_code
def yX12_readCompare : MethodName := ⟨RX12, "readCompare", "(I)Z"⟩
abbrev cX12_sentence : ByteArray := prog_14_method_92_code
def yX12_sentence : MethodName := ⟨RX12, "sentence", "()I"⟩
abbrev cX12_valueOf : ByteArray := prog_14_method_93_code
def yX12_valueOf : MethodName := ⟨RX12, "valueOf", "(II)I"⟩
abbrev cX12_isSo : ByteArray := prog_14_method_94_code
def yX12_isSo : MethodName := ⟨RX12, "isSo", "(II)Z"⟩
abbrev cX12_said : ByteArray := prog_14_method_95_code
def yX12_said : MethodName := ⟨RX12, "said", "(I)I"⟩
abbrev cX12_image : ByteArray := prog_14_method_96_code
def yX12_image : MethodName := ⟨RX12, "image", "(I)Z"⟩
abbrev cX12_restore : ByteArray := prog_14_method_97_code
def yX12_restore : MethodName := ⟨RX12, "restore", "(I)Z"⟩
abbrev cX12_count : ByteArray := prog_14_method_98_code
def yX12_count : MethodName := ⟨RX12, "count", "(I)I"⟩
def RJx145de : String := "java/io/Serializable"
def TJx145de : u_T := fun k => match k with
  | _ => ("", "", "", false)
def tyJx145de : Nat → FieldType := fun k => match k with
  | _ => .int
abbrev wsJx145de0 : List Cond := u_ws RJx145de TJx145de 0
theorem nmJx145de : ∀ a, a < 0 → ∀ b, b < 0 → a ≠ b → (TJx145de a).2.1 ≠ (TJx145de b).2.1 := by decide +kernel
theorem tyJx145de_ok : ∀ k, k < 0 → parseFieldDescriptor (TJx145de k).2.2.1 = some (tyJx145de k) := by decide +kernel
def RJx9f9b0 : String := "java/lang/CharSequence"
def TJx9f9b0 : u_T := fun k => match k with
  | _ => ("", "", "", false)
def tyJx9f9b0 : Nat → FieldType := fun k => match k with
  | _ => .int
abbrev wsJx9f9b00 : List Cond := u_ws RJx9f9b0 TJx9f9b0 0
theorem nmJx9f9b0 : ∀ a, a < 0 → ∀ b, b < 0 → a ≠ b → (TJx9f9b0 a).2.1 ≠ (TJx9f9b0 b).2.1 := by decide +kernel
theorem tyJx9f9b0_ok : ∀ k, k < 0 → parseFieldDescriptor (TJx9f9b0 k).2.2.1 = some (tyJx9f9b0 k) := by decide +kernel
def RJxb160c : String := "java/lang/Comparable"
def TJxb160c : u_T := fun k => match k with
  | _ => ("", "", "", false)
def tyJxb160c : Nat → FieldType := fun k => match k with
  | _ => .int
abbrev wsJxb160c0 : List Cond := u_ws RJxb160c TJxb160c 0
theorem nmJxb160c : ∀ a, a < 0 → ∀ b, b < 0 → a ≠ b → (TJxb160c a).2.1 ≠ (TJxb160c b).2.1 := by decide +kernel
theorem tyJxb160c_ok : ∀ k, k < 0 → parseFieldDescriptor (TJxb160c k).2.2.1 = some (tyJxb160c k) := by decide +kernel
def RJ9 : String := "java/lang/Math"
def TJ9 : u_T := fun k => match k with
  | _ => ("", "", "", false)
def tyJ9 : Nat → FieldType := fun k => match k with
  | _ => .int
abbrev wsJ90 : List Cond := u_ws RJ9 TJ9 0
theorem nmJ9 : ∀ a, a < 0 → ∀ b, b < 0 → a ≠ b → (TJ9 a).2.1 ≠ (TJ9 b).2.1 := by decide +kernel
theorem tyJ9_ok : ∀ k, k < 0 → parseFieldDescriptor (TJ9 k).2.2.1 = some (tyJ9 k) := by decide +kernel
abbrev cJ9_abs_0f7a4 : ByteArray := prog_19_method_59_code
def yJ9_abs_0f7a4 : MethodName := ⟨RJ9, "abs", "(I)I"⟩
abbrev cJ9_max_7cf53 : ByteArray := prog_19_method_65_code
def yJ9_max_7cf53 : MethodName := ⟨RJ9, "max", "(II)I"⟩
abbrev cJ9_min_7cf53 : ByteArray := prog_19_method_69_code
def yJ9_min_7cf53 : MethodName := ⟨RJ9, "min", "(II)I"⟩
def RJ0 : String := "java/lang/String"
def TJ0 : u_T := fun k => match k with
  | _ => ("", "", "", false)
def tyJ0 : Nat → FieldType := fun k => match k with
  | _ => .int
abbrev wsJ00 : List Cond := u_ws RJ0 TJ0 0
theorem nmJ0 : ∀ a, a < 0 → ∀ b, b < 0 → a ≠ b → (TJ0 a).2.1 ≠ (TJ0 b).2.1 := by decide +kernel
theorem tyJ0_ok : ∀ k, k < 0 → parseFieldDescriptor (TJ0 k).2.2.1 = some (tyJ0 k) := by decide +kernel
abbrev cJ0_length_8abf5 : ByteArray := prog_21_method_54_code
def yJ0_length_8abf5 : MethodName := ⟨RJ0, "length", "()I"⟩
abbrev cJ0_charAt_5068e : ByteArray := prog_21_method_56_code
def yJ0_charAt_5068e : MethodName := ⟨RJ0, "charAt", "(I)C"⟩
abbrev cJ0_coder_7d493 : ByteArray := prog_21_method_152_code
def yJ0_coder_7d493 : MethodName := ⟨RJ0, "coder", "()B"⟩
abbrev cJ0_isLatin1_aae02 : ByteArray := prog_21_method_154_code
def yJ0_isLatin1_aae02 : MethodName := ⟨RJ0, "isLatin1", "()Z"⟩
abbrev cJ0_checkIndex_df160 : ByteArray := prog_21_method_155_code
def yJ0_checkIndex_df160 : MethodName := ⟨RJ0, "checkIndex", "(II)V"⟩
def RJ1 : String := "java/lang/StringLatin1"
def TJ1 : u_T := fun k => match k with
  | _ => ("", "", "", false)
def tyJ1 : Nat → FieldType := fun k => match k with
  | _ => .int
abbrev wsJ10 : List Cond := u_ws RJ1 TJ1 0
theorem nmJ1 : ∀ a, a < 0 → ∀ b, b < 0 → a ≠ b → (TJ1 a).2.1 ≠ (TJ1 b).2.1 := by decide +kernel
theorem tyJ1_ok : ∀ k, k < 0 → parseFieldDescriptor (TJ1 k).2.2.1 = some (tyJ1 k) := by decide +kernel
abbrev cJ1_charAt_3b067 : ByteArray := prog_22_method_2_code
def yJ1_charAt_3b067 : MethodName := ⟨RJ1, "charAt", "([BI)C"⟩
def RJ2 : String := "java/lang/StringUTF16"
def TJ2 : u_T := fun k => match k with
  | _ => ("", "", "", false)
def tyJ2 : Nat → FieldType := fun k => match k with
  | _ => .int
abbrev wsJ20 : List Cond := u_ws RJ2 TJ2 0
theorem nmJ2 : ∀ a, a < 0 → ∀ b, b < 0 → a ≠ b → (TJ2 a).2.1 ≠ (TJ2 b).2.1 := by decide +kernel
theorem tyJ2_ok : ∀ k, k < 0 → parseFieldDescriptor (TJ2 k).2.2.1 = some (tyJ2 k) := by decide +kernel
abbrev cJ2_getChar_3b067 : ByteArray := prog_23_method_5_code
def yJ2_getChar_3b067 : MethodName := ⟨RJ2, "getChar", "([BI)C"⟩
abbrev cJ2_length_9d52b : ByteArray := prog_23_method_6_code
def yJ2_length_9d52b : MethodName := ⟨RJ2, "length", "([B)I"⟩
abbrev cJ2_charAt_3b067 : ByteArray := prog_23_method_83_code
def yJ2_charAt_3b067 : MethodName := ⟨RJ2, "charAt", "([BI)C"⟩
abbrev cJ2_checkIndex_2214a : ByteArray := prog_23_method_91_code
def yJ2_checkIndex_2214a : MethodName := ⟨RJ2, "checkIndex", "(I[B)V"⟩
def RJxfd54e : String := "java/lang/constant/Constable"
def TJxfd54e : u_T := fun k => match k with
  | _ => ("", "", "", false)
def tyJxfd54e : Nat → FieldType := fun k => match k with
  | _ => .int
abbrev wsJxfd54e0 : List Cond := u_ws RJxfd54e TJxfd54e 0
theorem nmJxfd54e : ∀ a, a < 0 → ∀ b, b < 0 → a ≠ b → (TJxfd54e a).2.1 ≠ (TJxfd54e b).2.1 := by decide +kernel
theorem tyJxfd54e_ok : ∀ k, k < 0 → parseFieldDescriptor (TJxfd54e k).2.2.1 = some (tyJxfd54e k) := by decide +kernel
def RJx3cf43 : String := "java/lang/constant/ConstantDesc"
def TJx3cf43 : u_T := fun k => match k with
  | _ => ("", "", "", false)
def tyJx3cf43 : Nat → FieldType := fun k => match k with
  | _ => .int
abbrev wsJx3cf430 : List Cond := u_ws RJx3cf43 TJx3cf43 0
theorem nmJx3cf43 : ∀ a, a < 0 → ∀ b, b < 0 → a ≠ b → (TJx3cf43 a).2.1 ≠ (TJx3cf43 b).2.1 := by decide +kernel
theorem tyJx3cf43_ok : ∀ k, k < 0 → parseFieldDescriptor (TJx3cf43 k).2.2.1 = some (tyJx3cf43 k) := by decide +kernel
def RJ3 : String := "jdk/internal/util/Preconditions"
def TJ3 : u_T := fun k => match k with
  | _ => ("", "", "", false)
def tyJ3 : Nat → FieldType := fun k => match k with
  | _ => .int
abbrev wsJ30 : List Cond := u_ws RJ3 TJ3 0
theorem nmJ3 : ∀ a, a < 0 → ∀ b, b < 0 → a ≠ b → (TJ3 a).2.1 ≠ (TJ3 b).2.1 := by decide +kernel
theorem tyJ3_ok : ∀ k, k < 0 → parseFieldDescriptor (TJ3 k).2.2.1 = some (tyJ3 k) := by decide +kernel
abbrev cJ3_checkIndex_8e157 : ByteArray := prog_28_method_11_code
def yJ3_checkIndex_8e157 : MethodName := ⟨RJ3, "checkIndex", "(IILjava/util/function/BiFunction;)I"⟩
def RL : String := "SingingSawLaw"
abbrev cL_piece : ByteArray := method_3_code
def yL_piece : MethodName := ⟨RL, "piece", "(LSingingSaw;II[J)I"⟩
abbrev cL_bend : ByteArray := method_4_code
def yL_bend : MethodName := ⟨RL, "bend", "(LSingingSaw;IIII[J)I"⟩
abbrev cL_tick : ByteArray := method_5_code
def yL_tick : MethodName := ⟨RL, "tick", "(LSingingSaw;II[J)I"⟩
abbrev cL_law : ByteArray := code
def yL_law : MethodName := ⟨RL, "law", "([I)Z"⟩
abbrev vwCl : List vw_C := [(RX0, TX0, 11), (RX1, TX1, 7), (RX2, TX2, 3), (RX3, TX3, 5), (RX4, TX4, 3), (RX5, TX5, 4), (RX6, TX6, 3), (RX7, TX7, 5), (RX8, TX8, 2), (RX9, TX9, 8), (RX10, TX10, 7), (RX11, TX11, 19), (RX12, TX12, 62)]

section
-- ===== PART A: goes FIRST, ahead of the names: the tables' words, and 'selects' of the private methods out of them =====
/-- a private method of a class that the tables say can be made, by its rows of tables_1 -/
def lw_okq (q : MethodName × Nat) : Prop := (q.1.cls ≠ "java/lang/invoke/MethodHandle" ∧ q.1.cls ≠ "java/lang/invoke/VarHandle") ∧ Cond.instantiable q.1.cls q.2 ∈ tables_1 ∧ Cond.privateMethod q.1 ∈ tables_1 ∧ Cond.instanceMethod q.1 ∈ tables_1
theorem lw_p0 : lw_okq (⟨"ElevenYoghurts", "refuse", "(I)I"⟩, 9) := ⟨⟨by decide +kernel, by decide +kernel⟩, List.mem_of_getElem? (i := 20) (by decide +kernel), List.mem_of_getElem? (i := 315) (by decide +kernel), List.mem_of_getElem? (i := 316) (by decide +kernel)⟩
theorem lw_p1 : lw_okq (⟨"ElevenYoghurts", "canFeel", "(LElevenYoghurts$Person;II)Z"⟩, 9) := ⟨⟨by decide +kernel, by decide +kernel⟩, List.mem_of_getElem? (i := 20) (by decide +kernel), List.mem_of_getElem? (i := 367) (by decide +kernel), List.mem_of_getElem? (i := 368) (by decide +kernel)⟩
theorem lw_p2 : lw_okq (⟨"ElevenYoghurts$Law", "workedOut", "(III)I"⟩, 5) := ⟨⟨by decide +kernel, by decide +kernel⟩, List.mem_of_getElem? (i := 38) (by decide +kernel), List.mem_of_getElem? (i := 399) (by decide +kernel), List.mem_of_getElem? (i := 400) (by decide +kernel)⟩
theorem lw_p3 : lw_okq (⟨"ElevenYoghurts$Reader", "isChain", "(II)Z"⟩, 5) := ⟨⟨by decide +kernel, by decide +kernel⟩, List.mem_of_getElem? (i := 199) (by decide +kernel), List.mem_of_getElem? (i := 457) (by decide +kernel), List.mem_of_getElem? (i := 458) (by decide +kernel)⟩
theorem lw_p4 : lw_okq (⟨"ElevenYoghurts$Reader", "isOperand", "(I)Z"⟩, 5) := ⟨⟨by decide +kernel, by decide +kernel⟩, List.mem_of_getElem? (i := 199) (by decide +kernel), List.mem_of_getElem? (i := 461) (by decide +kernel), List.mem_of_getElem? (i := 462) (by decide +kernel)⟩
theorem lw_p5 : lw_okq (⟨"ElevenYoghurts$Reader", "readNumber", "()V"⟩, 5) := ⟨⟨by decide +kernel, by decide +kernel⟩, List.mem_of_getElem? (i := 199) (by decide +kernel), List.mem_of_getElem? (i := 466) (by decide +kernel), List.mem_of_getElem? (i := 467) (by decide +kernel)⟩
theorem lw_p6 : lw_okq (⟨"ElevenYoghurts$Reader", "isDenied", "(I)Z"⟩, 5) := ⟨⟨by decide +kernel, by decide +kernel⟩, List.mem_of_getElem? (i := 199) (by decide +kernel), List.mem_of_getElem? (i := 556) (by decide +kernel), List.mem_of_getElem? (i := 557) (by decide +kernel)⟩
theorem lw_p7 : lw_okq (⟨"ElevenYoghurts$Reader", "isClosed", "(I)Z"⟩, 5) := ⟨⟨by decide +kernel, by decide +kernel⟩, List.mem_of_getElem? (i := 199) (by decide +kernel), List.mem_of_getElem? (i := 560) (by decide +kernel), List.mem_of_getElem? (i := 561) (by decide +kernel)⟩
theorem lw_p8 : lw_okq (⟨"ElevenYoghurts", "othersWanting", "(II)I"⟩, 9) := ⟨⟨by decide +kernel, by decide +kernel⟩, List.mem_of_getElem? (i := 20) (by decide +kernel), List.mem_of_getElem? (i := 712) (by decide +kernel), List.mem_of_getElem? (i := 713) (by decide +kernel)⟩
theorem lw_p9 : lw_okq (⟨"ElevenYoghurts", "locksForPeace", "()I"⟩, 9) := ⟨⟨by decide +kernel, by decide +kernel⟩, List.mem_of_getElem? (i := 20) (by decide +kernel), List.mem_of_getElem? (i := 726) (by decide +kernel), List.mem_of_getElem? (i := 727) (by decide +kernel)⟩
theorem lw_p10 : lw_okq (⟨"ElevenYoghurts", "sheetAt", "(I)LElevenYoghurts$Sheet;"⟩, 9) := ⟨⟨by decide +kernel, by decide +kernel⟩, List.mem_of_getElem? (i := 20) (by decide +kernel), List.mem_of_getElem? (i := 756) (by decide +kernel), List.mem_of_getElem? (i := 757) (by decide +kernel)⟩
theorem lw_p11 : lw_okq (⟨"ElevenYoghurts", "wouldTake", "(ILElevenYoghurts$Sheet;)Z"⟩, 9) := ⟨⟨by decide +kernel, by decide +kernel⟩, List.mem_of_getElem? (i := 20) (by decide +kernel), List.mem_of_getElem? (i := 765) (by decide +kernel), List.mem_of_getElem? (i := 766) (by decide +kernel)⟩
theorem lw_p12 : lw_okq (⟨"ElevenYoghurts$Voices", "say", "(IIII)I"⟩, 7) := ⟨⟨by decide +kernel, by decide +kernel⟩, List.mem_of_getElem? (i := 225) (by decide +kernel), List.mem_of_getElem? (i := 785) (by decide +kernel), List.mem_of_getElem? (i := 786) (by decide +kernel)⟩
theorem lw_p13 : lw_okq (⟨"ElevenYoghurts$Voices", "begin", "(I)V"⟩, 7) := ⟨⟨by decide +kernel, by decide +kernel⟩, List.mem_of_getElem? (i := 225) (by decide +kernel), List.mem_of_getElem? (i := 796) (by decide +kernel), List.mem_of_getElem? (i := 797) (by decide +kernel)⟩
theorem lw_p14 : lw_okq (⟨"ElevenYoghurts$Voices", "partedIn", "(II)I"⟩, 7) := ⟨⟨by decide +kernel, by decide +kernel⟩, List.mem_of_getElem? (i := 225) (by decide +kernel), List.mem_of_getElem? (i := 800) (by decide +kernel), List.mem_of_getElem? (i := 801) (by decide +kernel)⟩
theorem lw_p15 : lw_okq (⟨"ElevenYoghurtsModel", "error", "(I)I"⟩, 22) := ⟨⟨by decide +kernel, by decide +kernel⟩, List.mem_of_getElem? (i := 868) (by decide +kernel), List.mem_of_getElem? (i := 948) (by decide +kernel), List.mem_of_getElem? (i := 949) (by decide +kernel)⟩
def lw_privs_1 : List (MethodName × Nat) := [(⟨"ElevenYoghurts", "refuse", "(I)I"⟩, 9), (⟨"ElevenYoghurts", "canFeel", "(LElevenYoghurts$Person;II)Z"⟩, 9), (⟨"ElevenYoghurts$Law", "workedOut", "(III)I"⟩, 5), (⟨"ElevenYoghurts$Reader", "isChain", "(II)Z"⟩, 5), (⟨"ElevenYoghurts$Reader", "isOperand", "(I)Z"⟩, 5), (⟨"ElevenYoghurts$Reader", "readNumber", "()V"⟩, 5), (⟨"ElevenYoghurts$Reader", "isDenied", "(I)Z"⟩, 5), (⟨"ElevenYoghurts$Reader", "isClosed", "(I)Z"⟩, 5), (⟨"ElevenYoghurts", "othersWanting", "(II)I"⟩, 9), (⟨"ElevenYoghurts", "locksForPeace", "()I"⟩, 9), (⟨"ElevenYoghurts", "sheetAt", "(I)LElevenYoghurts$Sheet;"⟩, 9), (⟨"ElevenYoghurts", "wouldTake", "(ILElevenYoghurts$Sheet;)Z"⟩, 9), (⟨"ElevenYoghurts$Voices", "say", "(IIII)I"⟩, 7), (⟨"ElevenYoghurts$Voices", "begin", "(I)V"⟩, 7), (⟨"ElevenYoghurts$Voices", "partedIn", "(II)I"⟩, 7), (⟨"ElevenYoghurtsModel", "error", "(I)I"⟩, 22)]
theorem lw_r1 : ∀ q ∈ lw_privs_1, lw_okq q := List.forall_mem_cons.mpr ⟨lw_p0, List.forall_mem_cons.mpr ⟨lw_p1, List.forall_mem_cons.mpr ⟨lw_p2, List.forall_mem_cons.mpr ⟨lw_p3, List.forall_mem_cons.mpr ⟨lw_p4, List.forall_mem_cons.mpr ⟨lw_p5, List.forall_mem_cons.mpr ⟨lw_p6, List.forall_mem_cons.mpr ⟨lw_p7, List.forall_mem_cons.mpr ⟨lw_p8, List.forall_mem_cons.mpr ⟨lw_p9, List.forall_mem_cons.mpr ⟨lw_p10, List.forall_mem_cons.mpr ⟨lw_p11, List.forall_mem_cons.mpr ⟨lw_p12, List.forall_mem_cons.mpr ⟨lw_p13, List.forall_mem_cons.mpr ⟨lw_p14, List.forall_mem_cons.mpr ⟨lw_p15, fun _ h => absurd h List.not_mem_nil⟩⟩⟩⟩⟩⟩⟩⟩⟩⟩⟩⟩⟩⟩⟩⟩
theorem lw_p16 : lw_okq (⟨"ElevenYoghurtsModel", "whole", "()Z"⟩, 22) := ⟨⟨by decide +kernel, by decide +kernel⟩, List.mem_of_getElem? (i := 868) (by decide +kernel), List.mem_of_getElem? (i := 958) (by decide +kernel), List.mem_of_getElem? (i := 959) (by decide +kernel)⟩
theorem lw_p17 : lw_okq (⟨"ElevenYoghurtsModel", "both", "()Z"⟩, 22) := ⟨⟨by decide +kernel, by decide +kernel⟩, List.mem_of_getElem? (i := 868) (by decide +kernel), List.mem_of_getElem? (i := 962) (by decide +kernel), List.mem_of_getElem? (i := 963) (by decide +kernel)⟩
theorem lw_p18 : lw_okq (⟨"ElevenYoghurtsModel", "compared", "()Z"⟩, 22) := ⟨⟨by decide +kernel, by decide +kernel⟩, List.mem_of_getElem? (i := 868) (by decide +kernel), List.mem_of_getElem? (i := 966) (by decide +kernel), List.mem_of_getElem? (i := 967) (by decide +kernel)⟩
theorem lw_p19 : lw_okq (⟨"ElevenYoghurtsModel", "sum", "()Z"⟩, 22) := ⟨⟨by decide +kernel, by decide +kernel⟩, List.mem_of_getElem? (i := 868) (by decide +kernel), List.mem_of_getElem? (i := 970) (by decide +kernel), List.mem_of_getElem? (i := 971) (by decide +kernel)⟩
theorem lw_p20 : lw_okq (⟨"ElevenYoghurtsModel", "product", "()Z"⟩, 22) := ⟨⟨by decide +kernel, by decide +kernel⟩, List.mem_of_getElem? (i := 868) (by decide +kernel), List.mem_of_getElem? (i := 974) (by decide +kernel), List.mem_of_getElem? (i := 975) (by decide +kernel)⟩
theorem lw_p21 : lw_okq (⟨"ElevenYoghurtsModel", "one", "()Z"⟩, 22) := ⟨⟨by decide +kernel, by decide +kernel⟩, List.mem_of_getElem? (i := 868) (by decide +kernel), List.mem_of_getElem? (i := 978) (by decide +kernel), List.mem_of_getElem? (i := 979) (by decide +kernel)⟩
theorem lw_p22 : lw_okq (⟨"ElevenYoghurtsModel", "look", "()I"⟩, 22) := ⟨⟨by decide +kernel, by decide +kernel⟩, List.mem_of_getElem? (i := 868) (by decide +kernel), List.mem_of_getElem? (i := 982) (by decide +kernel), List.mem_of_getElem? (i := 983) (by decide +kernel)⟩
theorem lw_p23 : lw_okq (⟨"ElevenYoghurtsModel", "isName", "(I)Z"⟩, 22) := ⟨⟨by decide +kernel, by decide +kernel⟩, List.mem_of_getElem? (i := 868) (by decide +kernel), List.mem_of_getElem? (i := 986) (by decide +kernel), List.mem_of_getElem? (i := 987) (by decide +kernel)⟩
theorem lw_p24 : lw_okq (⟨"ElevenYoghurtsModel", "step1", "(II)V"⟩, 22) := ⟨⟨by decide +kernel, by decide +kernel⟩, List.mem_of_getElem? (i := 868) (by decide +kernel), List.mem_of_getElem? (i := 990) (by decide +kernel), List.mem_of_getElem? (i := 991) (by decide +kernel)⟩
theorem lw_p25 : lw_okq (⟨"ElevenYoghurtsModel", "opens", "()Z"⟩, 22) := ⟨⟨by decide +kernel, by decide +kernel⟩, List.mem_of_getElem? (i := 868) (by decide +kernel), List.mem_of_getElem? (i := 994) (by decide +kernel), List.mem_of_getElem? (i := 995) (by decide +kernel)⟩
theorem lw_p26 : lw_okq (⟨"ElevenYoghurtsModel", "hasText", "(I)Z"⟩, 22) := ⟨⟨by decide +kernel, by decide +kernel⟩, List.mem_of_getElem? (i := 868) (by decide +kernel), List.mem_of_getElem? (i := 1002) (by decide +kernel), List.mem_of_getElem? (i := 1003) (by decide +kernel)⟩
theorem lw_p27 : lw_okq (⟨"ElevenYoghurtsModel", "lays1", "(III)V"⟩, 22) := ⟨⟨by decide +kernel, by decide +kernel⟩, List.mem_of_getElem? (i := 868) (by decide +kernel), List.mem_of_getElem? (i := 1013) (by decide +kernel), List.mem_of_getElem? (i := 1014) (by decide +kernel)⟩
theorem lw_p28 : lw_okq (⟨"ElevenYoghurtsModel", "isPerson", "(I)Z"⟩, 22) := ⟨⟨by decide +kernel, by decide +kernel⟩, List.mem_of_getElem? (i := 868) (by decide +kernel), List.mem_of_getElem? (i := 1021) (by decide +kernel), List.mem_of_getElem? (i := 1022) (by decide +kernel)⟩
theorem lw_p29 : lw_okq (⟨"ElevenYoghurtsModel", "its", "(II)I"⟩, 22) := ⟨⟨by decide +kernel, by decide +kernel⟩, List.mem_of_getElem? (i := 868) (by decide +kernel), List.mem_of_getElem? (i := 1025) (by decide +kernel), List.mem_of_getElem? (i := 1026) (by decide +kernel)⟩
theorem lw_p30 : lw_okq (⟨"ElevenYoghurtsModel", "hisThings", "(I)I"⟩, 22) := ⟨⟨by decide +kernel, by decide +kernel⟩, List.mem_of_getElem? (i := 868) (by decide +kernel), List.mem_of_getElem? (i := 1029) (by decide +kernel), List.mem_of_getElem? (i := 1030) (by decide +kernel)⟩
theorem lw_p31 : lw_okq (⟨"ElevenYoghurtsModel", "isThere", "(I)Z"⟩, 22) := ⟨⟨by decide +kernel, by decide +kernel⟩, List.mem_of_getElem? (i := 868) (by decide +kernel), List.mem_of_getElem? (i := 1033) (by decide +kernel), List.mem_of_getElem? (i := 1034) (by decide +kernel)⟩
def lw_privs_2 : List (MethodName × Nat) := [(⟨"ElevenYoghurtsModel", "whole", "()Z"⟩, 22), (⟨"ElevenYoghurtsModel", "both", "()Z"⟩, 22), (⟨"ElevenYoghurtsModel", "compared", "()Z"⟩, 22), (⟨"ElevenYoghurtsModel", "sum", "()Z"⟩, 22), (⟨"ElevenYoghurtsModel", "product", "()Z"⟩, 22), (⟨"ElevenYoghurtsModel", "one", "()Z"⟩, 22), (⟨"ElevenYoghurtsModel", "look", "()I"⟩, 22), (⟨"ElevenYoghurtsModel", "isName", "(I)Z"⟩, 22), (⟨"ElevenYoghurtsModel", "step1", "(II)V"⟩, 22), (⟨"ElevenYoghurtsModel", "opens", "()Z"⟩, 22), (⟨"ElevenYoghurtsModel", "hasText", "(I)Z"⟩, 22), (⟨"ElevenYoghurtsModel", "lays1", "(III)V"⟩, 22), (⟨"ElevenYoghurtsModel", "isPerson", "(I)Z"⟩, 22), (⟨"ElevenYoghurtsModel", "its", "(II)I"⟩, 22), (⟨"ElevenYoghurtsModel", "hisThings", "(I)I"⟩, 22), (⟨"ElevenYoghurtsModel", "isThere", "(I)Z"⟩, 22)]
theorem lw_r2 : ∀ q ∈ lw_privs_2, lw_okq q := List.forall_mem_cons.mpr ⟨lw_p16, List.forall_mem_cons.mpr ⟨lw_p17, List.forall_mem_cons.mpr ⟨lw_p18, List.forall_mem_cons.mpr ⟨lw_p19, List.forall_mem_cons.mpr ⟨lw_p20, List.forall_mem_cons.mpr ⟨lw_p21, List.forall_mem_cons.mpr ⟨lw_p22, List.forall_mem_cons.mpr ⟨lw_p23, List.forall_mem_cons.mpr ⟨lw_p24, List.forall_mem_cons.mpr ⟨lw_p25, List.forall_mem_cons.mpr ⟨lw_p26, List.forall_mem_cons.mpr ⟨lw_p27, List.forall_mem_cons.mpr ⟨lw_p28, List.forall_mem_cons.mpr ⟨lw_p29, List.forall_mem_cons.mpr ⟨lw_p30, List.forall_mem_cons.mpr ⟨lw_p31, fun _ h => absurd h List.not_mem_nil⟩⟩⟩⟩⟩⟩⟩⟩⟩⟩⟩⟩⟩⟩⟩⟩
theorem lw_p32 : lw_okq (⟨"ElevenYoghurtsModel", "of", "(II)I"⟩, 22) := ⟨⟨by decide +kernel, by decide +kernel⟩, List.mem_of_getElem? (i := 868) (by decide +kernel), List.mem_of_getElem? (i := 1037) (by decide +kernel), List.mem_of_getElem? (i := 1038) (by decide +kernel)⟩
theorem lw_p33 : lw_okq (⟨"ElevenYoghurtsModel", "change1", "(II)I"⟩, 22) := ⟨⟨by decide +kernel, by decide +kernel⟩, List.mem_of_getElem? (i := 868) (by decide +kernel), List.mem_of_getElem? (i := 1045) (by decide +kernel), List.mem_of_getElem? (i := 1046) (by decide +kernel)⟩
theorem lw_p34 : lw_okq (⟨"ElevenYoghurtsModel", "lays2", "(III)V"⟩, 22) := ⟨⟨by decide +kernel, by decide +kernel⟩, List.mem_of_getElem? (i := 868) (by decide +kernel), List.mem_of_getElem? (i := 1064) (by decide +kernel), List.mem_of_getElem? (i := 1065) (by decide +kernel)⟩
theorem lw_p35 : lw_okq (⟨"ElevenYoghurtsModel", "isThing", "(I)Z"⟩, 22) := ⟨⟨by decide +kernel, by decide +kernel⟩, List.mem_of_getElem? (i := 868) (by decide +kernel), List.mem_of_getElem? (i := 1072) (by decide +kernel), List.mem_of_getElem? (i := 1073) (by decide +kernel)⟩
theorem lw_p36 : lw_okq (⟨"ElevenYoghurtsModel", "appeal", "(I)I"⟩, 22) := ⟨⟨by decide +kernel, by decide +kernel⟩, List.mem_of_getElem? (i := 868) (by decide +kernel), List.mem_of_getElem? (i := 1076) (by decide +kernel), List.mem_of_getElem? (i := 1077) (by decide +kernel)⟩
theorem lw_p37 : lw_okq (⟨"ElevenYoghurtsModel", "appealTold", "(III)I"⟩, 22) := ⟨⟨by decide +kernel, by decide +kernel⟩, List.mem_of_getElem? (i := 868) (by decide +kernel), List.mem_of_getElem? (i := 1080) (by decide +kernel), List.mem_of_getElem? (i := 1081) (by decide +kernel)⟩
theorem lw_p38 : lw_okq (⟨"ElevenYoghurtsModel", "worked", "(I)I"⟩, 22) := ⟨⟨by decide +kernel, by decide +kernel⟩, List.mem_of_getElem? (i := 868) (by decide +kernel), List.mem_of_getElem? (i := 1084) (by decide +kernel), List.mem_of_getElem? (i := 1085) (by decide +kernel)⟩
theorem lw_p39 : lw_okq (⟨"ElevenYoghurtsModel", "howMany", "()I"⟩, 22) := ⟨⟨by decide +kernel, by decide +kernel⟩, List.mem_of_getElem? (i := 868) (by decide +kernel), List.mem_of_getElem? (i := 1105) (by decide +kernel), List.mem_of_getElem? (i := 1106) (by decide +kernel)⟩
theorem lw_p40 : lw_okq (⟨"ElevenYoghurtsModel", "guardTold", "(III)I"⟩, 22) := ⟨⟨by decide +kernel, by decide +kernel⟩, List.mem_of_getElem? (i := 868) (by decide +kernel), List.mem_of_getElem? (i := 1113) (by decide +kernel), List.mem_of_getElem? (i := 1114) (by decide +kernel)⟩
theorem lw_p41 : lw_okq (⟨"ElevenYoghurtsModel", "urgeOf", "(II)I"⟩, 22) := ⟨⟨by decide +kernel, by decide +kernel⟩, List.mem_of_getElem? (i := 868) (by decide +kernel), List.mem_of_getElem? (i := 1121) (by decide +kernel), List.mem_of_getElem? (i := 1122) (by decide +kernel)⟩
theorem lw_p42 : lw_okq (⟨"ElevenYoghurtsModel", "asTaker", "(IIZ)I"⟩, 22) := ⟨⟨by decide +kernel, by decide +kernel⟩, List.mem_of_getElem? (i := 868) (by decide +kernel), List.mem_of_getElem? (i := 1125) (by decide +kernel), List.mem_of_getElem? (i := 1126) (by decide +kernel)⟩
theorem lw_p43 : lw_okq (⟨"ElevenYoghurtsModel", "asPerson", "(IZ)I"⟩, 22) := ⟨⟨by decide +kernel, by decide +kernel⟩, List.mem_of_getElem? (i := 868) (by decide +kernel), List.mem_of_getElem? (i := 1129) (by decide +kernel), List.mem_of_getElem? (i := 1130) (by decide +kernel)⟩
theorem lw_p44 : lw_okq (⟨"ElevenYoghurtsModel", "asAvenger", "(IIZ)I"⟩, 22) := ⟨⟨by decide +kernel, by decide +kernel⟩, List.mem_of_getElem? (i := 868) (by decide +kernel), List.mem_of_getElem? (i := 1133) (by decide +kernel), List.mem_of_getElem? (i := 1134) (by decide +kernel)⟩
theorem lw_p45 : lw_okq (⟨"ElevenYoghurtsModel", "guardOf", "(II)I"⟩, 22) := ⟨⟨by decide +kernel, by decide +kernel⟩, List.mem_of_getElem? (i := 868) (by decide +kernel), List.mem_of_getElem? (i := 1141) (by decide +kernel), List.mem_of_getElem? (i := 1142) (by decide +kernel)⟩
theorem lw_p46 : lw_okq (⟨"ElevenYoghurtsModel", "comesNow", "(II)I"⟩, 22) := ⟨⟨by decide +kernel, by decide +kernel⟩, List.mem_of_getElem? (i := 868) (by decide +kernel), List.mem_of_getElem? (i := 1149) (by decide +kernel), List.mem_of_getElem? (i := 1150) (by decide +kernel)⟩
theorem lw_p47 : lw_okq (⟨"ElevenYoghurtsModel", "wanted", "(II)I"⟩, 22) := ⟨⟨by decide +kernel, by decide +kernel⟩, List.mem_of_getElem? (i := 868) (by decide +kernel), List.mem_of_getElem? (i := 1153) (by decide +kernel), List.mem_of_getElem? (i := 1154) (by decide +kernel)⟩
def lw_privs_3 : List (MethodName × Nat) := [(⟨"ElevenYoghurtsModel", "of", "(II)I"⟩, 22), (⟨"ElevenYoghurtsModel", "change1", "(II)I"⟩, 22), (⟨"ElevenYoghurtsModel", "lays2", "(III)V"⟩, 22), (⟨"ElevenYoghurtsModel", "isThing", "(I)Z"⟩, 22), (⟨"ElevenYoghurtsModel", "appeal", "(I)I"⟩, 22), (⟨"ElevenYoghurtsModel", "appealTold", "(III)I"⟩, 22), (⟨"ElevenYoghurtsModel", "worked", "(I)I"⟩, 22), (⟨"ElevenYoghurtsModel", "howMany", "()I"⟩, 22), (⟨"ElevenYoghurtsModel", "guardTold", "(III)I"⟩, 22), (⟨"ElevenYoghurtsModel", "urgeOf", "(II)I"⟩, 22), (⟨"ElevenYoghurtsModel", "asTaker", "(IIZ)I"⟩, 22), (⟨"ElevenYoghurtsModel", "asPerson", "(IZ)I"⟩, 22), (⟨"ElevenYoghurtsModel", "asAvenger", "(IIZ)I"⟩, 22), (⟨"ElevenYoghurtsModel", "guardOf", "(II)I"⟩, 22), (⟨"ElevenYoghurtsModel", "comesNow", "(II)I"⟩, 22), (⟨"ElevenYoghurtsModel", "wanted", "(II)I"⟩, 22)]
theorem lw_r3 : ∀ q ∈ lw_privs_3, lw_okq q := List.forall_mem_cons.mpr ⟨lw_p32, List.forall_mem_cons.mpr ⟨lw_p33, List.forall_mem_cons.mpr ⟨lw_p34, List.forall_mem_cons.mpr ⟨lw_p35, List.forall_mem_cons.mpr ⟨lw_p36, List.forall_mem_cons.mpr ⟨lw_p37, List.forall_mem_cons.mpr ⟨lw_p38, List.forall_mem_cons.mpr ⟨lw_p39, List.forall_mem_cons.mpr ⟨lw_p40, List.forall_mem_cons.mpr ⟨lw_p41, List.forall_mem_cons.mpr ⟨lw_p42, List.forall_mem_cons.mpr ⟨lw_p43, List.forall_mem_cons.mpr ⟨lw_p44, List.forall_mem_cons.mpr ⟨lw_p45, List.forall_mem_cons.mpr ⟨lw_p46, List.forall_mem_cons.mpr ⟨lw_p47, fun _ h => absurd h List.not_mem_nil⟩⟩⟩⟩⟩⟩⟩⟩⟩⟩⟩⟩⟩⟩⟩⟩
theorem lw_p48 : lw_okq (⟨"ElevenYoghurtsModel", "canGo", "(I)Z"⟩, 22) := ⟨⟨by decide +kernel, by decide +kernel⟩, List.mem_of_getElem? (i := 868) (by decide +kernel), List.mem_of_getElem? (i := 1157) (by decide +kernel), List.mem_of_getElem? (i := 1158) (by decide +kernel)⟩
theorem lw_p49 : lw_okq (⟨"ElevenYoghurtsModel", "drawn", "(III)I"⟩, 22) := ⟨⟨by decide +kernel, by decide +kernel⟩, List.mem_of_getElem? (i := 868) (by decide +kernel), List.mem_of_getElem? (i := 1161) (by decide +kernel), List.mem_of_getElem? (i := 1162) (by decide +kernel)⟩
theorem lw_p50 : lw_okq (⟨"ElevenYoghurtsModel", "more", "(II)V"⟩, 22) := ⟨⟨by decide +kernel, by decide +kernel⟩, List.mem_of_getElem? (i := 868) (by decide +kernel), List.mem_of_getElem? (i := 1165) (by decide +kernel), List.mem_of_getElem? (i := 1166) (by decide +kernel)⟩
theorem lw_p51 : lw_okq (⟨"ElevenYoghurtsModel", "drawnHour", "()I"⟩, 22) := ⟨⟨by decide +kernel, by decide +kernel⟩, List.mem_of_getElem? (i := 868) (by decide +kernel), List.mem_of_getElem? (i := 1173) (by decide +kernel), List.mem_of_getElem? (i := 1174) (by decide +kernel)⟩
theorem lw_p52 : lw_okq (⟨"ElevenYoghurtsModel", "draw", "()I"⟩, 22) := ⟨⟨by decide +kernel, by decide +kernel⟩, List.mem_of_getElem? (i := 868) (by decide +kernel), List.mem_of_getElem? (i := 1177) (by decide +kernel), List.mem_of_getElem? (i := 1178) (by decide +kernel)⟩
theorem lw_p53 : lw_okq (⟨"ElevenYoghurtsModel", "hourGoes", "()V"⟩, 22) := ⟨⟨by decide +kernel, by decide +kernel⟩, List.mem_of_getElem? (i := 868) (by decide +kernel), List.mem_of_getElem? (i := 1182) (by decide +kernel), List.mem_of_getElem? (i := 1183) (by decide +kernel)⟩
theorem lw_p54 : lw_okq (⟨"ElevenYoghurtsModel", "othersWant", "(I)I"⟩, 22) := ⟨⟨by decide +kernel, by decide +kernel⟩, List.mem_of_getElem? (i := 868) (by decide +kernel), List.mem_of_getElem? (i := 1206) (by decide +kernel), List.mem_of_getElem? (i := 1207) (by decide +kernel)⟩
theorem lw_p55 : lw_okq (⟨"ElevenYoghurtsModel", "isPeace", "(I)Z"⟩, 22) := ⟨⟨by decide +kernel, by decide +kernel⟩, List.mem_of_getElem? (i := 868) (by decide +kernel), List.mem_of_getElem? (i := 1217) (by decide +kernel), List.mem_of_getElem? (i := 1218) (by decide +kernel)⟩
theorem lw_p56 : lw_okq (⟨"ElevenYoghurtsModel", "robs", "(I)I"⟩, 22) := ⟨⟨by decide +kernel, by decide +kernel⟩, List.mem_of_getElem? (i := 868) (by decide +kernel), List.mem_of_getElem? (i := 1225) (by decide +kernel), List.mem_of_getElem? (i := 1226) (by decide +kernel)⟩
theorem lw_p57 : lw_okq (⟨"ElevenYoghurtsModel", "lacks", "(I)I"⟩, 22) := ⟨⟨by decide +kernel, by decide +kernel⟩, List.mem_of_getElem? (i := 868) (by decide +kernel), List.mem_of_getElem? (i := 1240) (by decide +kernel), List.mem_of_getElem? (i := 1241) (by decide +kernel)⟩
theorem lw_p58 : lw_okq (⟨"ElevenYoghurtsModel", "layDown", "()V"⟩, 22) := ⟨⟨by decide +kernel, by decide +kernel⟩, List.mem_of_getElem? (i := 868) (by decide +kernel), List.mem_of_getElem? (i := 1247) (by decide +kernel), List.mem_of_getElem? (i := 1248) (by decide +kernel)⟩
theorem lw_p59 : lw_okq (⟨"ElevenYoghurtsModel", "layBack", "()V"⟩, 22) := ⟨⟨by decide +kernel, by decide +kernel⟩, List.mem_of_getElem? (i := 868) (by decide +kernel), List.mem_of_getElem? (i := 1251) (by decide +kernel), List.mem_of_getElem? (i := 1252) (by decide +kernel)⟩
theorem lw_p60 : lw_okq (⟨"ElevenYoghurtsModel", "kindNow", "()I"⟩, 22) := ⟨⟨by decide +kernel, by decide +kernel⟩, List.mem_of_getElem? (i := 868) (by decide +kernel), List.mem_of_getElem? (i := 1267) (by decide +kernel), List.mem_of_getElem? (i := 1268) (by decide +kernel)⟩
theorem lw_p61 : lw_okq (⟨"ElevenYoghurtsModel", "sniffsAs", "(II)I"⟩, 22) := ⟨⟨by decide +kernel, by decide +kernel⟩, List.mem_of_getElem? (i := 868) (by decide +kernel), List.mem_of_getElem? (i := 1271) (by decide +kernel), List.mem_of_getElem? (i := 1272) (by decide +kernel)⟩
theorem lw_p62 : lw_okq (⟨"ElevenYoghurtsModel", "begins", "(I)V"⟩, 22) := ⟨⟨by decide +kernel, by decide +kernel⟩, List.mem_of_getElem? (i := 868) (by decide +kernel), List.mem_of_getElem? (i := 1275) (by decide +kernel), List.mem_of_getElem? (i := 1276) (by decide +kernel)⟩
theorem lw_p63 : lw_okq (⟨"ElevenYoghurtsModel", "marksAs", "(II)I"⟩, 22) := ⟨⟨by decide +kernel, by decide +kernel⟩, List.mem_of_getElem? (i := 868) (by decide +kernel), List.mem_of_getElem? (i := 1279) (by decide +kernel), List.mem_of_getElem? (i := 1280) (by decide +kernel)⟩
def lw_privs_4 : List (MethodName × Nat) := [(⟨"ElevenYoghurtsModel", "canGo", "(I)Z"⟩, 22), (⟨"ElevenYoghurtsModel", "drawn", "(III)I"⟩, 22), (⟨"ElevenYoghurtsModel", "more", "(II)V"⟩, 22), (⟨"ElevenYoghurtsModel", "drawnHour", "()I"⟩, 22), (⟨"ElevenYoghurtsModel", "draw", "()I"⟩, 22), (⟨"ElevenYoghurtsModel", "hourGoes", "()V"⟩, 22), (⟨"ElevenYoghurtsModel", "othersWant", "(I)I"⟩, 22), (⟨"ElevenYoghurtsModel", "isPeace", "(I)Z"⟩, 22), (⟨"ElevenYoghurtsModel", "robs", "(I)I"⟩, 22), (⟨"ElevenYoghurtsModel", "lacks", "(I)I"⟩, 22), (⟨"ElevenYoghurtsModel", "layDown", "()V"⟩, 22), (⟨"ElevenYoghurtsModel", "layBack", "()V"⟩, 22), (⟨"ElevenYoghurtsModel", "kindNow", "()I"⟩, 22), (⟨"ElevenYoghurtsModel", "sniffsAs", "(II)I"⟩, 22), (⟨"ElevenYoghurtsModel", "begins", "(I)V"⟩, 22), (⟨"ElevenYoghurtsModel", "marksAs", "(II)I"⟩, 22)]
theorem lw_r4 : ∀ q ∈ lw_privs_4, lw_okq q := List.forall_mem_cons.mpr ⟨lw_p48, List.forall_mem_cons.mpr ⟨lw_p49, List.forall_mem_cons.mpr ⟨lw_p50, List.forall_mem_cons.mpr ⟨lw_p51, List.forall_mem_cons.mpr ⟨lw_p52, List.forall_mem_cons.mpr ⟨lw_p53, List.forall_mem_cons.mpr ⟨lw_p54, List.forall_mem_cons.mpr ⟨lw_p55, List.forall_mem_cons.mpr ⟨lw_p56, List.forall_mem_cons.mpr ⟨lw_p57, List.forall_mem_cons.mpr ⟨lw_p58, List.forall_mem_cons.mpr ⟨lw_p59, List.forall_mem_cons.mpr ⟨lw_p60, List.forall_mem_cons.mpr ⟨lw_p61, List.forall_mem_cons.mpr ⟨lw_p62, List.forall_mem_cons.mpr ⟨lw_p63, fun _ h => absurd h List.not_mem_nil⟩⟩⟩⟩⟩⟩⟩⟩⟩⟩⟩⟩⟩⟩⟩⟩
theorem lw_p64 : lw_okq (⟨"ElevenYoghurtsModel", "mNow", "()I"⟩, 22) := ⟨⟨by decide +kernel, by decide +kernel⟩, List.mem_of_getElem? (i := 868) (by decide +kernel), List.mem_of_getElem? (i := 1283) (by decide +kernel), List.mem_of_getElem? (i := 1284) (by decide +kernel)⟩
theorem lw_p65 : lw_okq (⟨"ElevenYoghurtsModel", "swearsAs", "(II)I"⟩, 22) := ⟨⟨by decide +kernel, by decide +kernel⟩, List.mem_of_getElem? (i := 868) (by decide +kernel), List.mem_of_getElem? (i := 1287) (by decide +kernel), List.mem_of_getElem? (i := 1288) (by decide +kernel)⟩
theorem lw_p66 : lw_okq (⟨"ElevenYoghurtsModel", "partsAs", "(II)I"⟩, 22) := ⟨⟨by decide +kernel, by decide +kernel⟩, List.mem_of_getElem? (i := 868) (by decide +kernel), List.mem_of_getElem? (i := 1291) (by decide +kernel), List.mem_of_getElem? (i := 1292) (by decide +kernel)⟩
def lw_privs_5 : List (MethodName × Nat) := [(⟨"ElevenYoghurtsModel", "mNow", "()I"⟩, 22), (⟨"ElevenYoghurtsModel", "swearsAs", "(II)I"⟩, 22), (⟨"ElevenYoghurtsModel", "partsAs", "(II)I"⟩, 22)]
theorem lw_r5 : ∀ q ∈ lw_privs_5, lw_okq q := List.forall_mem_cons.mpr ⟨lw_p64, List.forall_mem_cons.mpr ⟨lw_p65, List.forall_mem_cons.mpr ⟨lw_p66, fun _ h => absurd h List.not_mem_nil⟩⟩⟩
def lw_privs : List (MethodName × Nat) := lw_privs_1 ++ (lw_privs_2 ++ (lw_privs_3 ++ (lw_privs_4 ++ (lw_privs_5))))
def lw_tbl : List Cond := k2_sels lw_privs ++ tables_1
theorem lw_privs_ok : ∀ q ∈ lw_privs, lw_okq q := by
  show ∀ q ∈ lw_privs_1 ++ (lw_privs_2 ++ (lw_privs_3 ++ (lw_privs_4 ++ (lw_privs_5)))), lw_okq q
  exact List.forall_mem_append.mpr ⟨lw_r1, List.forall_mem_append.mpr ⟨lw_r2, List.forall_mem_append.mpr ⟨lw_r3, List.forall_mem_append.mpr ⟨lw_r4, lw_r5⟩⟩⟩⟩
def RX0 : String := "ElevenYoghurts$Fridge"
def TX0 : u_T := fun k => match k with
  | 0 => ("ElevenYoghurts$Fridge", "people", "[LElevenYoghurts$Person;", true)
  | 1 => ("ElevenYoghurts$Fridge", "things", "[LElevenYoghurts$Thing;", true)
  | 2 => ("ElevenYoghurts$Fridge", "appealLaw", "LElevenYoghurts$Law;", true)
  | 3 => ("ElevenYoghurts$Fridge", "guardLaw", "LElevenYoghurts$Law;", true)
  | 4 => ("ElevenYoghurts$Fridge", "tape", "[B", true)
  | 5 => ("ElevenYoghurts$Fridge", "waiting", "[I", true)
  | 6 => ("ElevenYoghurts$Fridge", "peopleCount", "I", false)
  | 7 => ("ElevenYoghurts$Fridge", "thingCount", "I", false)
  | 8 => ("ElevenYoghurts$Fridge", "tapeLength", "I", false)
  | 9 => ("ElevenYoghurts$Fridge", "waitingCount", "I", false)
  | 10 => ("ElevenYoghurts$Fridge", "hour", "I", false)
  | 11 => ("ElevenYoghurts$Fridge", "stolen", "I", false)
  | 12 => ("ElevenYoghurts$Fridge", "eaten", "I", false)
  | 13 => ("ElevenYoghurts$Fridge", "thrown", "I", false)
  | _ => ("ElevenYoghurts$Fridge", "z", "I", false)
def tyX0 : Nat → FieldType := fun k => match k with
  | 0 => .array (.object "ElevenYoghurts$Person")
  | 1 => .array (.object "ElevenYoghurts$Thing")
  | 2 => .object "ElevenYoghurts$Law"
  | 3 => .object "ElevenYoghurts$Law"
  | 4 => .array .byte
  | 5 => .array .int
  | 6 => .int
  | 7 => .int
  | 8 => .int
  | 9 => .int
  | 10 => .int
  | 11 => .int
  | 12 => .int
  | 13 => .int
  | _ => .int
abbrev wsX00 : List Cond := u_ws RX0 TX0 15
theorem nmX0 : ∀ a, a < 15 → ∀ b, b < 15 → a ≠ b → (TX0 a).2.1 ≠ (TX0 b).2.1 := by decide +kernel
theorem tyX0_ok : ∀ k, k < 15 → parseFieldDescriptor (TX0 k).2.2.1 = some (tyX0 k) := by decide +kernel
abbrev cX0_init : ByteArray := prog_2_method_1_code
def yX0_init : MethodName := ⟨RX0, "<init>", "()V"⟩
abbrev cX0_copyFrom : ByteArray := prog_2_method_2_code
def yX0_copyFrom : MethodName := ⟨RX0, "copyFrom", "(LElevenYoghurts$Fridge;)V"⟩
abbrev cX0_personAt : ByteArray := prog_2_method_3_code
def yX0_personAt : MethodName := ⟨RX0, "personAt", "(I)LElevenYoghurts$Person;"⟩
abbrev cX0_thingAt : ByteArray := prog_2_method_4_code
def yX0_thingAt : MethodName := ⟨RX0, "thingAt", "(I)LElevenYoghurts$Thing;"⟩
abbrev cX0_lawOf : ByteArray := prog_2_method_5_code
def yX0_lawOf : MethodName := ⟨RX0, "lawOf", "(I)LElevenYoghurts$Law;"⟩
abbrev cX0_inside : ByteArray := prog_2_method_6_code
def yX0_inside : MethodName := ⟨RX0, "inside", "()I"⟩
abbrev cX0_insideOf : ByteArray := prog_2_method_7_code
def yX0_insideOf : MethodName := ⟨RX0, "insideOf", "(LElevenYoghurts$Person;)I"⟩
abbrev cX0_appealOf : ByteArray := prog_2_method_8_code
def yX0_appealOf : MethodName := ⟨RX0, "appealOf", "(LElevenYoghurts$Thing;)I"⟩
abbrev cX0_pullOf : ByteArray := prog_2_method_9_code
def yX0_pullOf : MethodName := ⟨RX0, "pullOf", "(LElevenYoghurts$Person;LElevenYoghurts$Thing;I)I"⟩
abbrev cX0_wantedBy : ByteArray := prog_2_method_10_code
def yX0_wantedBy : MethodName := ⟨RX0, "wantedBy", "(LElevenYoghurts$Person;I)I"⟩
abbrev cX0_wantersOf : ByteArray := prog_2_method_11_code
def yX0_wantersOf : MethodName := ⟨RX0, "wantersOf", "(II)I"⟩
abbrev cX0_robbedBy : ByteArray := prog_2_method_12_code
def yX0_robbedBy : MethodName := ⟨RX0, "robbedBy", "(I)I"⟩
abbrev cX0_firstToBeStolen : ByteArray := prog_2_method_13_code
def yX0_firstToBeStolen : MethodName := ⟨RX0, "firstToBeStolen", "()I"⟩
abbrev cX0_takenBy : ByteArray := prog_2_method_14_code
def yX0_takenBy : MethodName := ⟨RX0, "takenBy", "(LElevenYoghurts$Person;I)I"⟩
abbrev cX0_eat : ByteArray := prog_2_method_15_code
def yX0_eat : MethodName := ⟨RX0, "eat", "(LElevenYoghurts$Person;LElevenYoghurts$Thing;)V"⟩
abbrev cX0_throwOut : ByteArray := prog_2_method_16_code
def yX0_throwOut : MethodName := ⟨RX0, "throwOut", "(I)I"⟩
abbrev cX0_drawnBelow : ByteArray := prog_2_method_17_code
def yX0_drawnBelow : MethodName := ⟨RX0, "drawnBelow", "(I)I"⟩
abbrev cX0_hourByDraws : ByteArray := prog_2_method_18_code
def yX0_hourByDraws : MethodName := ⟨RX0, "hourByDraws", "()I"⟩
abbrev cX0_hourGoes : ByteArray := prog_2_method_19_code
def yX0_hourGoes : MethodName := ⟨RX0, "hourGoes", "()V"⟩
def RX1 : String := "ElevenYoghurts$Law"
def TX1 : u_T := fun k => match k with
  | 0 => ("ElevenYoghurts$Law", "use", "I", true)
  | 1 => ("ElevenYoghurts$Law", "signs", "[I", true)
  | 2 => ("ElevenYoghurts$Law", "values", "[I", true)
  | 3 => ("ElevenYoghurts$Law", "stack", "[I", true)
  | _ => ("ElevenYoghurts$Law", "length", "I", false)
def tyX1 : Nat → FieldType := fun k => match k with
  | 0 => .int
  | 1 => .array .int
  | 2 => .array .int
  | 3 => .array .int
  | _ => .int
abbrev wsX10 : List Cond := u_ws RX1 TX1 5
theorem nmX1 : ∀ a, a < 5 → ∀ b, b < 5 → a ≠ b → (TX1 a).2.1 ≠ (TX1 b).2.1 := by decide +kernel
theorem tyX1_ok : ∀ k, k < 5 → parseFieldDescriptor (TX1 k).2.2.1 = some (tyX1 k) := by decide +kernel
abbrev cX1_init : ByteArray := prog_3_method_1_code
def yX1_init : MethodName := ⟨RX1, "<init>", "(I)V"⟩
abbrev cX1_clear : ByteArray := prog_3_method_2_code
def yX1_clear : MethodName := ⟨RX1, "clear", "()V"⟩
abbrev cX1_hasText : ByteArray := prog_3_method_3_code
def yX1_hasText : MethodName := ⟨RX1, "hasText", "()Z"⟩
abbrev cX1_copyFrom : ByteArray := prog_3_method_4_code
def yX1_copyFrom : MethodName := ⟨RX1, "copyFrom", "(LElevenYoghurts$Law;)V"⟩
abbrev cX1_append : ByteArray := prog_3_method_5_code
def yX1_append : MethodName := ⟨RX1, "append", "(II)V"⟩
abbrev cX1_gives : ByteArray := prog_3_method_6_code
def yX1_gives : MethodName := ⟨RX1, "gives", "(III)I"⟩
abbrev cX1_workedOut : ByteArray := prog_3_method_7_code
def yX1_workedOut : MethodName := ⟨RX1, "workedOut", "(III)I"⟩
abbrev cX1_named : ByteArray := prog_3_method_8_code
def yX1_named : MethodName := ⟨RX1, "named", "(IIII)I"⟩
abbrev cX1_joined : ByteArray := prog_3_method_9_code
def yX1_joined : MethodName := ⟨RX1, "joined", "(III)I"⟩
def RX2 : String := "ElevenYoghurts$Person"
def TX2 : u_T := fun k => match k with
  | 0 => ("ElevenYoghurts$Person", "k", "I", true)
  | 1 => ("ElevenYoghurts$Person", "kind", "I", false)
  | 2 => ("ElevenYoghurts$Person", "m", "I", false)
  | 3 => ("ElevenYoghurts$Person", "hunger", "I", false)
  | 4 => ("ElevenYoghurts$Person", "robbed", "I", false)
  | _ => ("ElevenYoghurts$Person", "suspect", "I", false)
def tyX2 : Nat → FieldType := fun k => match k with
  | 0 => .int
  | 1 => .int
  | 2 => .int
  | 3 => .int
  | 4 => .int
  | _ => .int
abbrev wsX20 : List Cond := u_ws RX2 TX2 6
theorem nmX2 : ∀ a, a < 6 → ∀ b, b < 6 → a ≠ b → (TX2 a).2.1 ≠ (TX2 b).2.1 := by decide +kernel
theorem tyX2_ok : ∀ k, k < 6 → parseFieldDescriptor (TX2 k).2.2.1 = some (tyX2 k) := by decide +kernel
abbrev cX2_init : ByteArray := prog_4_method_1_code
def yX2_init : MethodName := ⟨RX2, "<init>", "(I)V"⟩
abbrev cX2_arrive : ByteArray := prog_4_method_2_code
def yX2_arrive : MethodName := ⟨RX2, "arrive", "(I)V"⟩
abbrev cX2_turnInto : ByteArray := prog_4_method_3_code
def yX2_turnInto : MethodName := ⟨RX2, "turnInto", "(I)V"⟩
abbrev cX2_copyFrom : ByteArray := prog_4_method_4_code
def yX2_copyFrom : MethodName := ⟨RX2, "copyFrom", "(LElevenYoghurts$Person;)V"⟩
abbrev cX2_isOfKind : ByteArray := prog_4_method_5_code
def yX2_isOfKind : MethodName := ⟨RX2, "isOfKind", "(I)Z"⟩
abbrev cX2_owns : ByteArray := prog_4_method_6_code
def yX2_owns : MethodName := ⟨RX2, "owns", "(LElevenYoghurts$Thing;)Z"⟩
abbrev cX2_urgeFor : ByteArray := prog_4_method_7_code
def yX2_urgeFor : MethodName := ⟨RX2, "urgeFor", "(LElevenYoghurts$Thing;I)I"⟩
abbrev cX2_hungerForAnHour : ByteArray := prog_4_method_8_code
def yX2_hungerForAnHour : MethodName := ⟨RX2, "hungerForAnHour", "()V"⟩
abbrev cX2_loseOne : ByteArray := prog_4_method_9_code
def yX2_loseOne : MethodName := ⟨RX2, "loseOne", "()V"⟩
def RX3 : String := "ElevenYoghurts$Reader"
def TX3 : u_T := fun k => match k with
  | 0 => ("ElevenYoghurts$Reader", "draft", "LElevenYoghurts$Law;", true)
  | 1 => ("ElevenYoghurts$Reader", "tape", "[B", false)
  | 2 => ("ElevenYoghurts$Reader", "length", "I", false)
  | 3 => ("ElevenYoghurts$Reader", "at", "I", false)
  | _ => ("ElevenYoghurts$Reader", "names", "Ljava/lang/String;", false)
def tyX3 : Nat → FieldType := fun k => match k with
  | 0 => .object "ElevenYoghurts$Law"
  | 1 => .array .byte
  | 2 => .int
  | 3 => .int
  | _ => .object "java/lang/String"
abbrev wsX30 : List Cond := u_ws RX3 TX3 5
theorem nmX3 : ∀ a, a < 5 → ∀ b, b < 5 → a ≠ b → (TX3 a).2.1 ≠ (TX3 b).2.1 := by decide +kernel
theorem tyX3_ok : ∀ k, k < 5 → parseFieldDescriptor (TX3 k).2.2.1 = some (tyX3 k) := by decide +kernel
abbrev cX3_init : ByteArray := prog_5_method_1_code
def yX3_init : MethodName := ⟨RX3, "<init>", "()V"⟩
abbrev cX3_faultOf : ByteArray := prog_5_method_2_code
def yX3_faultOf : MethodName := ⟨RX3, "faultOf", "([BII)I"⟩
abbrev cX3_isChain : ByteArray := prog_5_method_3_code
def yX3_isChain : MethodName := ⟨RX3, "isChain", "(II)Z"⟩
abbrev cX3_isOperand : ByteArray := prog_5_method_4_code
def yX3_isOperand : MethodName := ⟨RX3, "isOperand", "(I)Z"⟩
abbrev cX3_isDenied : ByteArray := prog_5_method_5_code
def yX3_isDenied : MethodName := ⟨RX3, "isDenied", "(I)Z"⟩
abbrev cX3_isClosed : ByteArray := prog_5_method_6_code
def yX3_isClosed : MethodName := ⟨RX3, "isClosed", "(I)Z"⟩
abbrev cX3_readNumber : ByteArray := prog_5_method_7_code
def yX3_readNumber : MethodName := ⟨RX3, "readNumber", "()V"⟩
abbrev cX3_levelOf : ByteArray := prog_5_method_8_code
def yX3_levelOf : MethodName := ⟨RX3, "levelOf", "(I)I"⟩
def RX4 : String := "ElevenYoghurts$Sheet"
def TX4 : u_T := fun k => match k with
  | 0 => ("ElevenYoghurts$Sheet", "numbers", "[I", true)
  | 1 => ("ElevenYoghurts$Sheet", "bits", "I", false)
  | _ => ("ElevenYoghurts$Sheet", "size", "I", false)
def tyX4 : Nat → FieldType := fun k => match k with
  | 0 => .array .int
  | 1 => .int
  | _ => .int
abbrev wsX40 : List Cond := u_ws RX4 TX4 3
theorem nmX4 : ∀ a, a < 3 → ∀ b, b < 3 → a ≠ b → (TX4 a).2.1 ≠ (TX4 b).2.1 := by decide +kernel
theorem tyX4_ok : ∀ k, k < 3 → parseFieldDescriptor (TX4 k).2.2.1 = some (tyX4 k) := by decide +kernel
abbrev cX4_init : ByteArray := prog_6_method_1_code
def yX4_init : MethodName := ⟨RX4, "<init>", "()V"⟩
abbrev cX4_isMissing : ByteArray := prog_6_method_2_code
def yX4_isMissing : MethodName := ⟨RX4, "isMissing", "()Z"⟩
abbrev cX4_lay : ByteArray := prog_6_method_3_code
def yX4_lay : MethodName := ⟨RX4, "lay", "(II)V"⟩
abbrev cX4_holds : ByteArray := prog_6_method_4_code
def yX4_holds : MethodName := ⟨RX4, "holds", "(II)Z"⟩
abbrev cX4_write : ByteArray := prog_6_method_5_code
def yX4_write : MethodName := ⟨RX4, "write", "(II)V"⟩
def RX5 : String := "ElevenYoghurts$Thing"
def TX5 : u_T := fun k => match k with
  | 0 => ("ElevenYoghurts$Thing", "owner", "I", false)
  | 1 => ("ElevenYoghurts$Thing", "label", "I", false)
  | 2 => ("ElevenYoghurts$Thing", "look", "I", false)
  | 3 => ("ElevenYoghurts$Thing", "age", "I", false)
  | 4 => ("ElevenYoghurts$Thing", "locked", "I", false)
  | 5 => ("ElevenYoghurts$Thing", "inside", "Z", false)
  | _ => ("ElevenYoghurts$Thing", "taker", "I", false)
def tyX5 : Nat → FieldType := fun k => match k with
  | 0 => .int
  | 1 => .int
  | 2 => .int
  | 3 => .int
  | 4 => .int
  | 5 => .boolean
  | _ => .int
abbrev wsX50 : List Cond := u_ws RX5 TX5 7
theorem nmX5 : ∀ a, a < 7 → ∀ b, b < 7 → a ≠ b → (TX5 a).2.1 ≠ (TX5 b).2.1 := by decide +kernel
theorem tyX5_ok : ∀ k, k < 7 → parseFieldDescriptor (TX5 k).2.2.1 = some (tyX5 k) := by decide +kernel
abbrev cX5_init : ByteArray := prog_7_method_1_code
def yX5_init : MethodName := ⟨RX5, "<init>", "()V"⟩
abbrev cX5_arrive : ByteArray := prog_7_method_2_code
def yX5_arrive : MethodName := ⟨RX5, "arrive", "(IIII)V"⟩
abbrev cX5_copyFrom : ByteArray := prog_7_method_3_code
def yX5_copyFrom : MethodName := ⟨RX5, "copyFrom", "(LElevenYoghurts$Thing;)V"⟩
abbrev cX5_canBeTaken : ByteArray := prog_7_method_4_code
def yX5_canBeTaken : MethodName := ⟨RX5, "canBeTaken", "()Z"⟩
abbrev cX5_leave : ByteArray := prog_7_method_5_code
def yX5_leave : MethodName := ⟨RX5, "leave", "(I)V"⟩
abbrev cX5_comeBack : ByteArray := prog_7_method_6_code
def yX5_comeBack : MethodName := ⟨RX5, "comeBack", "()V"⟩
abbrev cX5_grow : ByteArray := prog_7_method_7_code
def yX5_grow : MethodName := ⟨RX5, "grow", "()V"⟩
def RX6 : String := "ElevenYoghurts$Voices"
def TX6 : u_T := fun k => match k with
  | 0 => ("ElevenYoghurts$Voices", "trace", "[I", true)
  | 1 => ("ElevenYoghurts$Voices", "traceLength", "I", false)
  | 2 => ("ElevenYoghurts$Voices", "answer", "I", false)
  | 3 => ("ElevenYoghurts$Voices", "parted", "Z", false)
  | 4 => ("ElevenYoghurts$Voices", "k", "I", false)
  | 5 => ("ElevenYoghurts$Voices", "m", "I", false)
  | _ => ("ElevenYoghurts$Voices", "kind", "I", false)
def tyX6 : Nat → FieldType := fun k => match k with
  | 0 => .array .int
  | 1 => .int
  | 2 => .int
  | 3 => .boolean
  | 4 => .int
  | 5 => .int
  | _ => .int
abbrev wsX60 : List Cond := u_ws RX6 TX6 7
theorem nmX6 : ∀ a, a < 7 → ∀ b, b < 7 → a ≠ b → (TX6 a).2.1 ≠ (TX6 b).2.1 := by decide +kernel
theorem tyX6_ok : ∀ k, k < 7 → parseFieldDescriptor (TX6 k).2.2.1 = some (tyX6 k) := by decide +kernel
abbrev cX6_init : ByteArray := prog_8_method_1_code
def yX6_init : MethodName := ⟨RX6, "<init>", "()V"⟩
abbrev cX6_isAnswered : ByteArray := prog_8_method_2_code
def yX6_isAnswered : MethodName := ⟨RX6, "isAnswered", "(LElevenYoghurts$Person;II)Z"⟩
abbrev cX6_say : ByteArray := prog_8_method_3_code
def yX6_say : MethodName := ⟨RX6, "say", "(IIII)I"⟩
abbrev cX6_bearerOf : ByteArray := prog_8_method_4_code
def yX6_bearerOf : MethodName := ⟨RX6, "bearerOf", "(II)I"⟩
abbrev cX6_begin : ByteArray := prog_8_method_5_code
def yX6_begin : MethodName := ⟨RX6, "begin", "(I)V"⟩
abbrev cX6_partedIn : ByteArray := prog_8_method_6_code
def yX6_partedIn : MethodName := ⟨RX6, "partedIn", "(II)I"⟩
def RX7 : String := "ElevenYoghurts"
def TX7 : u_T := fun k => match k with
  | 0 => ("ElevenYoghurts", "now", "LElevenYoghurts$Fridge;", true)
  | 1 => ("ElevenYoghurts", "kept", "LElevenYoghurts$Fridge;", true)
  | 2 => ("ElevenYoghurts", "thought", "LElevenYoghurts$Fridge;", true)
  | 3 => ("ElevenYoghurts", "reader", "LElevenYoghurts$Reader;", true)
  | 4 => ("ElevenYoghurts", "voices", "LElevenYoghurts$Voices;", true)
  | 5 => ("ElevenYoghurts", "sheets", "[LElevenYoghurts$Sheet;", true)
  | 6 => ("ElevenYoghurts", "refused", "[I", true)
  | 7 => ("ElevenYoghurts", "reached", "[I", true)
  | _ => ("ElevenYoghurts", "timesKept", "I", false)
def tyX7 : Nat → FieldType := fun k => match k with
  | 0 => .object "ElevenYoghurts$Fridge"
  | 1 => .object "ElevenYoghurts$Fridge"
  | 2 => .object "ElevenYoghurts$Fridge"
  | 3 => .object "ElevenYoghurts$Reader"
  | 4 => .object "ElevenYoghurts$Voices"
  | 5 => .array (.object "ElevenYoghurts$Sheet")
  | 6 => .array .int
  | 7 => .array .int
  | _ => .int
abbrev wsX70 : List Cond := u_ws RX7 TX7 9
theorem nmX7 : ∀ a, a < 9 → ∀ b, b < 9 → a ≠ b → (TX7 a).2.1 ≠ (TX7 b).2.1 := by decide +kernel
theorem tyX7_ok : ∀ k, k < 9 → parseFieldDescriptor (TX7 k).2.2.1 = some (tyX7 k) := by decide +kernel
abbrev cX7_init : ByteArray := prog_1_method_1_code
def yX7_init : MethodName := ⟨RX7, "<init>", "()V"⟩
abbrev cX7_person : ByteArray := prog_1_method_2_code
def yX7_person : MethodName := ⟨RX7, "person", "(I)I"⟩
abbrev cX7_personIs : ByteArray := prog_1_method_3_code
def yX7_personIs : MethodName := ⟨RX7, "personIs", "(II)I"⟩
abbrev cX7_become : ByteArray := prog_1_method_4_code
def yX7_become : MethodName := ⟨RX7, "become", "(II)I"⟩
abbrev cX7_as : ByteArray := prog_1_method_5_code
def yX7_as : MethodName := ⟨RX7, "as", "(II)I"⟩
abbrev cX7_feel : ByteArray := prog_1_method_6_code
def yX7_feel : MethodName := ⟨RX7, "feel", "(III)I"⟩
abbrev cX7_thing : ByteArray := prog_1_method_7_code
def yX7_thing : MethodName := ⟨RX7, "thing", "(IIII)I"⟩
abbrev cX7_thingIs : ByteArray := prog_1_method_8_code
def yX7_thingIs : MethodName := ⟨RX7, "thingIs", "(II)I"⟩
abbrev cX7_mark : ByteArray := prog_1_method_9_code
def yX7_mark : MethodName := ⟨RX7, "mark", "(III)I"⟩
abbrev cX7_anew : ByteArray := prog_1_method_10_code
def yX7_anew : MethodName := ⟨RX7, "anew", "(I)I"⟩
abbrev cX7_feed : ByteArray := prog_1_method_11_code
def yX7_feed : MethodName := ⟨RX7, "feed", "(JI)I"⟩
abbrev cX7_text : ByteArray := prog_1_method_12_code
def yX7_text : MethodName := ⟨RX7, "text", "(I)I"⟩
abbrev cX7_untell : ByteArray := prog_1_method_13_code
def yX7_untell : MethodName := ⟨RX7, "untell", "(I)I"⟩
abbrev cX7_law : ByteArray := prog_1_method_14_code
def yX7_law : MethodName := ⟨RX7, "law", "(IIII)I"⟩
abbrev cX7_urge : ByteArray := prog_1_method_15_code
def yX7_urge : MethodName := ⟨RX7, "urge", "(II)I"⟩
abbrev cX7_guard : ByteArray := prog_1_method_16_code
def yX7_guard : MethodName := ⟨RX7, "guard", "(II)I"⟩
abbrev cX7_comes : ByteArray := prog_1_method_17_code
def yX7_comes : MethodName := ⟨RX7, "comes", "(II)I"⟩
abbrev cX7_hours : ByteArray := prog_1_method_18_code
def yX7_hours : MethodName := ⟨RX7, "hours", "(I)I"⟩
abbrev cX7_friday : ByteArray := prog_1_method_19_code
def yX7_friday : MethodName := ⟨RX7, "friday", "(I)I"⟩
abbrev cX7_seed : ByteArray := prog_1_method_20_code
def yX7_seed : MethodName := ⟨RX7, "seed", "(I)I"⟩
abbrev cX7_wants : ByteArray := prog_1_method_21_code
def yX7_wants : MethodName := ⟨RX7, "wants", "(III)I"⟩
abbrev cX7_trap : ByteArray := prog_1_method_22_code
def yX7_trap : MethodName := ⟨RX7, "trap", "(II)I"⟩
abbrev cX7_safest : ByteArray := prog_1_method_23_code
def yX7_safest : MethodName := ⟨RX7, "safest", "(I)I"⟩
abbrev cX7_lock : ByteArray := prog_1_method_24_code
def yX7_lock : MethodName := ⟨RX7, "lock", "(I)I"⟩
abbrev cX7_round : ByteArray := prog_1_method_25_code
def yX7_round : MethodName := ⟨RX7, "round", "(II)I"⟩
abbrev cX7_odds : ByteArray := prog_1_method_26_code
def yX7_odds : MethodName := ⟨RX7, "odds", "(II)I"⟩
abbrev cX7_who : ByteArray := prog_1_method_27_code
def yX7_who : MethodName := ⟨RX7, "who", "(I)I"⟩
abbrev cX7_lost : ByteArray := prog_1_method_28_code
def yX7_lost : MethodName := ⟨RX7, "lost", "(II)I"⟩
abbrev cX7_oldest : ByteArray := prog_1_method_29_code
def yX7_oldest : MethodName := ⟨RX7, "oldest", "()I"⟩
abbrev cX7_voice : ByteArray := prog_1_method_30_code
def yX7_voice : MethodName := ⟨RX7, "voice", "(III)I"⟩
abbrev cX7_body : ByteArray := prog_1_method_31_code
def yX7_body : MethodName := ⟨RX7, "body", "(I)I"⟩
abbrev cX7_sheet : ByteArray := prog_1_method_32_code
def yX7_sheet : MethodName := ⟨RX7, "sheet", "(III)I"⟩
abbrev cX7_put : ByteArray := prog_1_method_33_code
def yX7_put : MethodName := ⟨RX7, "put", "(III)I"⟩
abbrev cX7_move : ByteArray := prog_1_method_34_code
def yX7_move : MethodName := ⟨RX7, "move", "(IIIII)I"⟩
abbrev cX7_labels : ByteArray := prog_1_method_35_code
def yX7_labels : MethodName := ⟨RX7, "labels", "(I)I"⟩
abbrev cX7_judge : ByteArray := prog_1_method_36_code
def yX7_judge : MethodName := ⟨RX7, "judge", "(I)I"⟩
abbrev cX7_image : ByteArray := prog_1_method_37_code
def yX7_image : MethodName := ⟨RX7, "image", "()I"⟩
abbrev cX7_restore : ByteArray := prog_1_method_38_code
def yX7_restore : MethodName := ⟨RX7, "restore", "()I"⟩
abbrev cX7_tell : ByteArray := prog_1_method_39_code
def yX7_tell : MethodName := ⟨RX7, "tell", "(I)I"⟩
abbrev cX7_check : ByteArray := prog_1_method_40_code
def yX7_check : MethodName := ⟨RX7, "check", "()I"⟩
abbrev cX7_count : ByteArray := prog_1_method_41_code
def yX7_count : MethodName := ⟨RX7, "count", "(I)I"⟩
abbrev cX7_told : ByteArray := prog_1_method_42_code
def yX7_told : MethodName := ⟨RX7, "told", "(I)I"⟩
abbrev cX7_refuse : ByteArray := prog_1_method_43_code
def yX7_refuse : MethodName := ⟨RX7, "refuse", "(I)I"⟩
abbrev cX7_isIn : ByteArray := prog_1_method_44_code
def yX7_isIn : MethodName := ⟨RX7, "isIn", "(III)Z"⟩
abbrev cX7_isUse : ByteArray := prog_1_method_45_code
def yX7_isUse : MethodName := ⟨RX7, "isUse", "(I)Z"⟩
abbrev cX7_isKindAndNumber : ByteArray := prog_1_method_46_code
def yX7_isKindAndNumber : MethodName := ⟨RX7, "isKindAndNumber", "(I)Z"⟩
abbrev cX7_canFeel : ByteArray := prog_1_method_47_code
def yX7_canFeel : MethodName := ⟨RX7, "canFeel", "(LElevenYoghurts$Person;II)Z"⟩
abbrev cX7_sheetAt : ByteArray := prog_1_method_48_code
def yX7_sheetAt : MethodName := ⟨RX7, "sheetAt", "(I)LElevenYoghurts$Sheet;"⟩
abbrev cX7_othersWanting : ByteArray := prog_1_method_49_code
def yX7_othersWanting : MethodName := ⟨RX7, "othersWanting", "(II)I"⟩
abbrev cX7_locksForPeace : ByteArray := prog_1_method_50_code
def yX7_locksForPeace : MethodName := ⟨RX7, "locksForPeace", "()I"⟩
abbrev cX7_greatestCommon : ByteArray := prog_1_method_51_code
def yX7_greatestCommon : MethodName := ⟨RX7, "greatestCommon", "(II)I"⟩
abbrev cX7_wouldTake : ByteArray := prog_1_method_52_code
def yX7_wouldTake : MethodName := ⟨RX7, "wouldTake", "(ILElevenYoghurts$Sheet;)Z"⟩
def RX8 : String := "ElevenYoghurtsModel"
def TX8 : u_T := fun k => match k with
  | 0 => ("ElevenYoghurtsModel", "s", "[I", true)
  | 1 => ("ElevenYoghurtsModel", "kept", "[I", true)
  | 2 => ("ElevenYoghurtsModel", "laid", "[I", true)
  | 3 => ("ElevenYoghurtsModel", "images", "I", false)
  | 4 => ("ElevenYoghurtsModel", "errors", "[I", true)
  | 5 => ("ElevenYoghurtsModel", "at", "I", false)
  | 6 => ("ElevenYoghurtsModel", "open", "I", false)
  | 7 => ("ElevenYoghurtsModel", "steps", "I", false)
  | 8 => ("ElevenYoghurtsModel", "use", "I", false)
  | 9 => ("ElevenYoghurtsModel", "step", "[I", true)
  | 10 => ("ElevenYoghurtsModel", "named", "[I", true)
  | 11 => ("ElevenYoghurtsModel", "pile", "[I", true)
  | 12 => ("ElevenYoghurtsModel", "draws1", "[I", true)
  | 13 => ("ElevenYoghurtsModel", "places", "[I", true)
  | 14 => ("ElevenYoghurtsModel", "traced", "I", false)
  | 15 => ("ElevenYoghurtsModel", "trace", "[I", true)
  | 16 => ("ElevenYoghurtsModel", "speaks", "I", false)
  | 17 => ("ElevenYoghurtsModel", "isParted", "Z", false)
  | 18 => ("ElevenYoghurtsModel", "bits", "[I", true)
  | 19 => ("ElevenYoghurtsModel", "sizes", "[I", true)
  | 20 => ("ElevenYoghurtsModel", "number", "[I", true)
  | _ => ("ElevenYoghurtsModel", "aside", "[I", true)
def tyX8 : Nat → FieldType := fun k => match k with
  | 0 => .array .int
  | 1 => .array .int
  | 2 => .array .int
  | 3 => .int
  | 4 => .array .int
  | 5 => .int
  | 6 => .int
  | 7 => .int
  | 8 => .int
  | 9 => .array .int
  | 10 => .array .int
  | 11 => .array .int
  | 12 => .array .int
  | 13 => .array .int
  | 14 => .int
  | 15 => .array .int
  | 16 => .int
  | 17 => .boolean
  | 18 => .array .int
  | 19 => .array .int
  | 20 => .array .int
  | _ => .array .int
abbrev wsX80 : List Cond := u_ws RX8 TX8 22
theorem nmX8 : ∀ a, a < 22 → ∀ b, b < 22 → a ≠ b → (TX8 a).2.1 ≠ (TX8 b).2.1 := by decide +kernel
theorem tyX8_ok : ∀ k, k < 22 → parseFieldDescriptor (TX8 k).2.2.1 = some (tyX8 k) := by decide +kernel
abbrev cX8_init : ByteArray := prog_10_method_1_code
def yX8_init : MethodName := ⟨RX8, "<init>", "()V"⟩
abbrev cX8_error : ByteArray := prog_10_method_2_code
def yX8_error : MethodName := ⟨RX8, "error", "(I)I"⟩
abbrev cX8_in : ByteArray := prog_10_method_3_code
def yX8_in : MethodName := ⟨RX8, "in", "(III)Z"⟩
abbrev cX8_held : ByteArray := prog_10_method_4_code
def yX8_held : MethodName := ⟨RX8, "held", "(III)I"⟩
abbrev cX8_carry : ByteArray := prog_10_method_5_code
def yX8_carry : MethodName := ⟨RX8, "carry", "([I[I)V"⟩
abbrev cX8_layDown : ByteArray := prog_10_method_6_code
def yX8_layDown : MethodName := ⟨RX8, "layDown", "()V"⟩
abbrev cX8_layBack : ByteArray := prog_10_method_7_code
def yX8_layBack : MethodName := ⟨RX8, "layBack", "()V"⟩
abbrev cX8_isPerson : ByteArray := prog_10_method_8_code
def yX8_isPerson : MethodName := ⟨RX8, "isPerson", "(I)Z"⟩
abbrev cX8_isThing : ByteArray := prog_10_method_9_code
def yX8_isThing : MethodName := ⟨RX8, "isThing", "(I)Z"⟩
abbrev cX8_its : ByteArray := prog_10_method_10_code
def yX8_its : MethodName := ⟨RX8, "its", "(II)I"⟩
abbrev cX8_lays1 : ByteArray := prog_10_method_11_code
def yX8_lays1 : MethodName := ⟨RX8, "lays1", "(III)V"⟩
abbrev cX8_of : ByteArray := prog_10_method_12_code
def yX8_of : MethodName := ⟨RX8, "of", "(II)I"⟩
abbrev cX8_lays2 : ByteArray := prog_10_method_13_code
def yX8_lays2 : MethodName := ⟨RX8, "lays2", "(III)V"⟩
abbrev cX8_change1 : ByteArray := prog_10_method_14_code
def yX8_change1 : MethodName := ⟨RX8, "change1", "(II)I"⟩
abbrev cX8_isThere : ByteArray := prog_10_method_15_code
def yX8_isThere : MethodName := ⟨RX8, "isThere", "(I)Z"⟩
abbrev cX8_howMany : ByteArray := prog_10_method_16_code
def yX8_howMany : MethodName := ⟨RX8, "howMany", "()I"⟩
abbrev cX8_feed : ByteArray := prog_10_method_17_code
def yX8_feed : MethodName := ⟨RX8, "feed", "(JI)I"⟩
abbrev cX8_look : ByteArray := prog_10_method_18_code
def yX8_look : MethodName := ⟨RX8, "look", "()I"⟩
abbrev cX8_isName : ByteArray := prog_10_method_19_code
def yX8_isName : MethodName := ⟨RX8, "isName", "(I)Z"⟩
abbrev cX8_step1 : ByteArray := prog_10_method_20_code
def yX8_step1 : MethodName := ⟨RX8, "step1", "(II)V"⟩
abbrev cX8_whole : ByteArray := prog_10_method_21_code
def yX8_whole : MethodName := ⟨RX8, "whole", "()Z"⟩
abbrev cX8_both : ByteArray := prog_10_method_22_code
def yX8_both : MethodName := ⟨RX8, "both", "()Z"⟩
abbrev cX8_compared : ByteArray := prog_10_method_23_code
def yX8_compared : MethodName := ⟨RX8, "compared", "()Z"⟩
abbrev cX8_sum : ByteArray := prog_10_method_24_code
def yX8_sum : MethodName := ⟨RX8, "sum", "()Z"⟩
abbrev cX8_product : ByteArray := prog_10_method_25_code
def yX8_product : MethodName := ⟨RX8, "product", "()Z"⟩
abbrev cX8_opens : ByteArray := prog_10_method_26_code
def yX8_opens : MethodName := ⟨RX8, "opens", "()Z"⟩
abbrev cX8_one : ByteArray := prog_10_method_27_code
def yX8_one : MethodName := ⟨RX8, "one", "()Z"⟩
abbrev cX8_hasText : ByteArray := prog_10_method_28_code
def yX8_hasText : MethodName := ⟨RX8, "hasText", "(I)Z"⟩
abbrev cX8_text : ByteArray := prog_10_method_29_code
def yX8_text : MethodName := ⟨RX8, "text", "(I)I"⟩
abbrev cX8_untell : ByteArray := prog_10_method_30_code
def yX8_untell : MethodName := ⟨RX8, "untell", "(I)I"⟩
abbrev cX8_joined : ByteArray := prog_10_method_31_code
def yX8_joined : MethodName := ⟨RX8, "joined", "(III)I"⟩
abbrev cX8_worked : ByteArray := prog_10_method_32_code
def yX8_worked : MethodName := ⟨RX8, "worked", "(I)I"⟩
abbrev cX8_appealTold : ByteArray := prog_10_method_33_code
def yX8_appealTold : MethodName := ⟨RX8, "appealTold", "(III)I"⟩
abbrev cX8_guardTold : ByteArray := prog_10_method_34_code
def yX8_guardTold : MethodName := ⟨RX8, "guardTold", "(III)I"⟩
abbrev cX8_appeal : ByteArray := prog_10_method_35_code
def yX8_appeal : MethodName := ⟨RX8, "appeal", "(I)I"⟩
abbrev cX8_guardOf : ByteArray := prog_10_method_36_code
def yX8_guardOf : MethodName := ⟨RX8, "guardOf", "(II)I"⟩
abbrev cX8_asPerson : ByteArray := prog_10_method_37_code
def yX8_asPerson : MethodName := ⟨RX8, "asPerson", "(IZ)I"⟩
abbrev cX8_asTaker : ByteArray := prog_10_method_38_code
def yX8_asTaker : MethodName := ⟨RX8, "asTaker", "(IIZ)I"⟩
abbrev cX8_asAvenger : ByteArray := prog_10_method_39_code
def yX8_asAvenger : MethodName := ⟨RX8, "asAvenger", "(IIZ)I"⟩
abbrev cX8_urgeOf : ByteArray := prog_10_method_40_code
def yX8_urgeOf : MethodName := ⟨RX8, "urgeOf", "(II)I"⟩
abbrev cX8_drawn : ByteArray := prog_10_method_41_code
def yX8_drawn : MethodName := ⟨RX8, "drawn", "(III)I"⟩
abbrev cX8_canGo : ByteArray := prog_10_method_42_code
def yX8_canGo : MethodName := ⟨RX8, "canGo", "(I)Z"⟩
abbrev cX8_wanted : ByteArray := prog_10_method_43_code
def yX8_wanted : MethodName := ⟨RX8, "wanted", "(II)I"⟩
abbrev cX8_more : ByteArray := prog_10_method_44_code
def yX8_more : MethodName := ⟨RX8, "more", "(II)V"⟩
abbrev cX8_comesNow : ByteArray := prog_10_method_45_code
def yX8_comesNow : MethodName := ⟨RX8, "comesNow", "(II)I"⟩
abbrev cX8_hourGoes : ByteArray := prog_10_method_46_code
def yX8_hourGoes : MethodName := ⟨RX8, "hourGoes", "()V"⟩
abbrev cX8_draw : ByteArray := prog_10_method_47_code
def yX8_draw : MethodName := ⟨RX8, "draw", "()I"⟩
abbrev cX8_drawnHour : ByteArray := prog_10_method_48_code
def yX8_drawnHour : MethodName := ⟨RX8, "drawnHour", "()I"⟩
abbrev cX8_isKind : ByteArray := prog_10_method_49_code
def yX8_isKind : MethodName := ⟨RX8, "isKind", "(I)Z"⟩
abbrev cX8_person : ByteArray := prog_10_method_50_code
def yX8_person : MethodName := ⟨RX8, "person", "(I)I"⟩
abbrev cX8_hisThings : ByteArray := prog_10_method_51_code
def yX8_hisThings : MethodName := ⟨RX8, "hisThings", "(I)I"⟩
abbrev cX8_personIs : ByteArray := prog_10_method_52_code
def yX8_personIs : MethodName := ⟨RX8, "personIs", "(II)I"⟩
abbrev cX8_become : ByteArray := prog_10_method_53_code
def yX8_become : MethodName := ⟨RX8, "become", "(II)I"⟩
abbrev cX8_as : ByteArray := prog_10_method_54_code
def yX8_as : MethodName := ⟨RX8, "as", "(II)I"⟩
abbrev cX8_feel : ByteArray := prog_10_method_55_code
def yX8_feel : MethodName := ⟨RX8, "feel", "(III)I"⟩
abbrev cX8_greatest : ByteArray := prog_10_method_56_code
def yX8_greatest : MethodName := ⟨RX8, "greatest", "(I)I"⟩
abbrev cX8_thing : ByteArray := prog_10_method_57_code
def yX8_thing : MethodName := ⟨RX8, "thing", "(IIII)I"⟩
abbrev cX8_thingIs : ByteArray := prog_10_method_58_code
def yX8_thingIs : MethodName := ⟨RX8, "thingIs", "(II)I"⟩
abbrev cX8_mark : ByteArray := prog_10_method_59_code
def yX8_mark : MethodName := ⟨RX8, "mark", "(III)I"⟩
abbrev cX8_anew : ByteArray := prog_10_method_60_code
def yX8_anew : MethodName := ⟨RX8, "anew", "(I)I"⟩
abbrev cX8_law : ByteArray := prog_10_method_61_code
def yX8_law : MethodName := ⟨RX8, "law", "(IIII)I"⟩
abbrev cX8_urge : ByteArray := prog_10_method_62_code
def yX8_urge : MethodName := ⟨RX8, "urge", "(II)I"⟩
abbrev cX8_guard : ByteArray := prog_10_method_63_code
def yX8_guard : MethodName := ⟨RX8, "guard", "(II)I"⟩
abbrev cX8_comes : ByteArray := prog_10_method_64_code
def yX8_comes : MethodName := ⟨RX8, "comes", "(II)I"⟩
abbrev cX8_hours : ByteArray := prog_10_method_65_code
def yX8_hours : MethodName := ⟨RX8, "hours", "(I)I"⟩
abbrev cX8_friday : ByteArray := prog_10_method_66_code
def yX8_friday : MethodName := ⟨RX8, "friday", "(I)I"⟩
abbrev cX8_seed : ByteArray := prog_10_method_67_code
def yX8_seed : MethodName := ⟨RX8, "seed", "(I)I"⟩
abbrev cX8_wants : ByteArray := prog_10_method_68_code
def yX8_wants : MethodName := ⟨RX8, "wants", "(III)I"⟩
abbrev cX8_trap : ByteArray := prog_10_method_69_code
def yX8_trap : MethodName := ⟨RX8, "trap", "(II)I"⟩
abbrev cX8_othersWant : ByteArray := prog_10_method_70_code
def yX8_othersWant : MethodName := ⟨RX8, "othersWant", "(I)I"⟩
abbrev cX8_safest : ByteArray := prog_10_method_71_code
def yX8_safest : MethodName := ⟨RX8, "safest", "(I)I"⟩
abbrev cX8_isPeace : ByteArray := prog_10_method_72_code
def yX8_isPeace : MethodName := ⟨RX8, "isPeace", "(I)Z"⟩
abbrev cX8_bitsOf : ByteArray := prog_10_method_73_code
def yX8_bitsOf : MethodName := ⟨RX8, "bitsOf", "(I)I"⟩
abbrev cX8_lock : ByteArray := prog_10_method_74_code
def yX8_lock : MethodName := ⟨RX8, "lock", "(I)I"⟩
abbrev cX8_robs : ByteArray := prog_10_method_75_code
def yX8_robs : MethodName := ⟨RX8, "robs", "(I)I"⟩
abbrev cX8_round : ByteArray := prog_10_method_76_code
def yX8_round : MethodName := ⟨RX8, "round", "(II)I"⟩
abbrev cX8_divisor : ByteArray := prog_10_method_77_code
def yX8_divisor : MethodName := ⟨RX8, "divisor", "(II)I"⟩
abbrev cX8_odds : ByteArray := prog_10_method_78_code
def yX8_odds : MethodName := ⟨RX8, "odds", "(II)I"⟩
abbrev cX8_who : ByteArray := prog_10_method_79_code
def yX8_who : MethodName := ⟨RX8, "who", "(I)I"⟩
abbrev cX8_lost : ByteArray := prog_10_method_80_code
def yX8_lost : MethodName := ⟨RX8, "lost", "(II)I"⟩
abbrev cX8_oldest : ByteArray := prog_10_method_81_code
def yX8_oldest : MethodName := ⟨RX8, "oldest", "()I"⟩
abbrev cX8_begins : ByteArray := prog_10_method_82_code
def yX8_begins : MethodName := ⟨RX8, "begins", "(I)V"⟩
abbrev cX8_above : ByteArray := prog_10_method_83_code
def yX8_above : MethodName := ⟨RX8, "above", "(I)I"⟩
abbrev cX8_kindNow : ByteArray := prog_10_method_84_code
def yX8_kindNow : MethodName := ⟨RX8, "kindNow", "()I"⟩
abbrev cX8_mNow : ByteArray := prog_10_method_85_code
def yX8_mNow : MethodName := ⟨RX8, "mNow", "()I"⟩
abbrev cX8_sniffsAs : ByteArray := prog_10_method_86_code
def yX8_sniffsAs : MethodName := ⟨RX8, "sniffsAs", "(II)I"⟩
abbrev cX8_marksAs : ByteArray := prog_10_method_87_code
def yX8_marksAs : MethodName := ⟨RX8, "marksAs", "(II)I"⟩
abbrev cX8_swearsAs : ByteArray := prog_10_method_88_code
def yX8_swearsAs : MethodName := ⟨RX8, "swearsAs", "(II)I"⟩
abbrev cX8_partsAs : ByteArray := prog_10_method_89_code
def yX8_partsAs : MethodName := ⟨RX8, "partsAs", "(II)I"⟩
abbrev cX8_voice : ByteArray := prog_10_method_90_code
def yX8_voice : MethodName := ⟨RX8, "voice", "(III)I"⟩
abbrev cX8_body : ByteArray := prog_10_method_91_code
def yX8_body : MethodName := ⟨RX8, "body", "(I)I"⟩
abbrev cX8_isSheet : ByteArray := prog_10_method_92_code
def yX8_isSheet : MethodName := ⟨RX8, "isSheet", "(I)Z"⟩
abbrev cX8_sheet : ByteArray := prog_10_method_93_code
def yX8_sheet : MethodName := ⟨RX8, "sheet", "(III)I"⟩
abbrev cX8_put : ByteArray := prog_10_method_94_code
def yX8_put : MethodName := ⟨RX8, "put", "(III)I"⟩
abbrev cX8_move : ByteArray := prog_10_method_95_code
def yX8_move : MethodName := ⟨RX8, "move", "(IIIII)I"⟩
abbrev cX8_lacks : ByteArray := prog_10_method_96_code
def yX8_lacks : MethodName := ⟨RX8, "lacks", "(I)I"⟩
abbrev cX8_labels : ByteArray := prog_10_method_97_code
def yX8_labels : MethodName := ⟨RX8, "labels", "(I)I"⟩
abbrev cX8_judge : ByteArray := prog_10_method_98_code
def yX8_judge : MethodName := ⟨RX8, "judge", "(I)I"⟩
abbrev cX8_image : ByteArray := prog_10_method_99_code
def yX8_image : MethodName := ⟨RX8, "image", "()I"⟩
abbrev cX8_restore : ByteArray := prog_10_method_100_code
def yX8_restore : MethodName := ⟨RX8, "restore", "()I"⟩
abbrev cX8_tell : ByteArray := prog_10_method_101_code
def yX8_tell : MethodName := ⟨RX8, "tell", "(I)I"⟩
abbrev cX8_check : ByteArray := prog_10_method_102_code
def yX8_check : MethodName := ⟨RX8, "check", "()I"⟩
abbrev cX8_count : ByteArray := prog_10_method_103_code
def yX8_count : MethodName := ⟨RX8, "count", "(I)I"⟩
abbrev cX8_told : ByteArray := prog_10_method_104_code
def yX8_told : MethodName := ⟨RX8, "told", "(I)I"⟩
def RJx145de : String := "java/io/Serializable"
def TJx145de : u_T := fun k => match k with
  | _ => ("", "", "", false)
def tyJx145de : Nat → FieldType := fun k => match k with
  | _ => .int
abbrev wsJx145de0 : List Cond := u_ws RJx145de TJx145de 0
theorem nmJx145de : ∀ a, a < 0 → ∀ b, b < 0 → a ≠ b → (TJx145de a).2.1 ≠ (TJx145de b).2.1 := by decide +kernel
theorem tyJx145de_ok : ∀ k, k < 0 → parseFieldDescriptor (TJx145de k).2.2.1 = some (tyJx145de k) := by decide +kernel
def RJx9f9b0 : String := "java/lang/CharSequence"
def TJx9f9b0 : u_T := fun k => match k with
  | _ => ("", "", "", false)
def tyJx9f9b0 : Nat → FieldType := fun k => match k with
  | _ => .int
abbrev wsJx9f9b00 : List Cond := u_ws RJx9f9b0 TJx9f9b0 0
theorem nmJx9f9b0 : ∀ a, a < 0 → ∀ b, b < 0 → a ≠ b → (TJx9f9b0 a).2.1 ≠ (TJx9f9b0 b).2.1 := by decide +kernel
theorem tyJx9f9b0_ok : ∀ k, k < 0 → parseFieldDescriptor (TJx9f9b0 k).2.2.1 = some (tyJx9f9b0 k) := by decide +kernel
def RJ11 : String := "java/lang/Character"
def TJ11 : u_T := fun k => match k with
  | _ => ("", "", "", false)
def tyJ11 : Nat → FieldType := fun k => match k with
  | _ => .int
abbrev wsJ110 : List Cond := u_ws RJ11 TJ11 0
theorem nmJ11 : ∀ a, a < 0 → ∀ b, b < 0 → a ≠ b → (TJ11 a).2.1 ≠ (TJ11 b).2.1 := by decide +kernel
theorem tyJ11_ok : ∀ k, k < 0 → parseFieldDescriptor (TJ11 k).2.2.1 = some (tyJ11 k) := by decide +kernel
abbrev cJ11_isValidCodePoint_9a6ad : ByteArray := prog_11_method_11_code
def yJ11_isValidCodePoint_9a6ad : MethodName := ⟨RJ11, "isValidCodePoint", "(I)Z"⟩
abbrev cJ11_highSurrogate_5068e : ByteArray := prog_11_method_28_code
def yJ11_highSurrogate_5068e : MethodName := ⟨RJ11, "highSurrogate", "(I)C"⟩
abbrev cJ11_lowSurrogate_5068e : ByteArray := prog_11_method_29_code
def yJ11_lowSurrogate_5068e : MethodName := ⟨RJ11, "lowSurrogate", "(I)C"⟩
def RJxb160c : String := "java/lang/Comparable"
def TJxb160c : u_T := fun k => match k with
  | _ => ("", "", "", false)
def tyJxb160c : Nat → FieldType := fun k => match k with
  | _ => .int
abbrev wsJxb160c0 : List Cond := u_ws RJxb160c TJxb160c 0
theorem nmJxb160c : ∀ a, a < 0 → ∀ b, b < 0 → a ≠ b → (TJxb160c a).2.1 ≠ (TJxb160c b).2.1 := by decide +kernel
theorem tyJxb160c_ok : ∀ k, k < 0 → parseFieldDescriptor (TJxb160c k).2.2.1 = some (tyJxb160c k) := by decide +kernel
def RJ6 : String := "java/lang/Integer"
def TJ6 : u_T := fun k => match k with
  | _ => ("", "", "", false)
def tyJ6 : Nat → FieldType := fun k => match k with
  | _ => .int
abbrev wsJ60 : List Cond := u_ws RJ6 TJ6 0
theorem nmJ6 : ∀ a, a < 0 → ∀ b, b < 0 → a ≠ b → (TJ6 a).2.1 ≠ (TJ6 b).2.1 := by decide +kernel
theorem tyJ6_ok : ∀ k, k < 0 → parseFieldDescriptor (TJ6 k).2.2.1 = some (tyJ6 k) := by decide +kernel
abbrev cJ6_bitCount_0f7a4 : ByteArray := prog_12_method_49_code
def yJ6_bitCount_0f7a4 : MethodName := ⟨RJ6, "bitCount", "(I)I"⟩
def RJ9 : String := "java/lang/Math"
def TJ9 : u_T := fun k => match k with
  | _ => ("", "", "", false)
def tyJ9 : Nat → FieldType := fun k => match k with
  | _ => .int
abbrev wsJ90 : List Cond := u_ws RJ9 TJ9 0
theorem nmJ9 : ∀ a, a < 0 → ∀ b, b < 0 → a ≠ b → (TJ9 a).2.1 ≠ (TJ9 b).2.1 := by decide +kernel
theorem tyJ9_ok : ∀ k, k < 0 → parseFieldDescriptor (TJ9 k).2.2.1 = some (tyJ9 k) := by decide +kernel
abbrev cJ9_max_7cf53 : ByteArray := prog_13_method_65_code
def yJ9_max_7cf53 : MethodName := ⟨RJ9, "max", "(II)I"⟩
abbrev cJ9_min_7cf53 : ByteArray := prog_13_method_69_code
def yJ9_min_7cf53 : MethodName := ⟨RJ9, "min", "(II)I"⟩
def RJ0 : String := "java/lang/String"
def TJ0 : u_T := fun k => match k with
  | _ => ("", "", "", false)
def tyJ0 : Nat → FieldType := fun k => match k with
  | _ => .int
abbrev wsJ00 : List Cond := u_ws RJ0 TJ0 0
theorem nmJ0 : ∀ a, a < 0 → ∀ b, b < 0 → a ≠ b → (TJ0 a).2.1 ≠ (TJ0 b).2.1 := by decide +kernel
theorem tyJ0_ok : ∀ k, k < 0 → parseFieldDescriptor (TJ0 k).2.2.1 = some (tyJ0 k) := by decide +kernel
abbrev cJ0_length_8abf5 : ByteArray := prog_14_method_54_code
def yJ0_length_8abf5 : MethodName := ⟨RJ0, "length", "()I"⟩
abbrev cJ0_indexOf_0f7a4 : ByteArray := prog_14_method_79_code
def yJ0_indexOf_0f7a4 : MethodName := ⟨RJ0, "indexOf", "(I)I"⟩
abbrev cJ0_indexOf_7cf53 : ByteArray := prog_14_method_80_code
def yJ0_indexOf_7cf53 : MethodName := ⟨RJ0, "indexOf", "(II)I"⟩
abbrev cJ0_coder_7d493 : ByteArray := prog_14_method_152_code
def yJ0_coder_7d493 : MethodName := ⟨RJ0, "coder", "()B"⟩
abbrev cJ0_isLatin1_aae02 : ByteArray := prog_14_method_154_code
def yJ0_isLatin1_aae02 : MethodName := ⟨RJ0, "isLatin1", "()Z"⟩
abbrev cJ0_checkBoundsBeginEnd_23922 : ByteArray := prog_14_method_158_code
def yJ0_checkBoundsBeginEnd_23922 : MethodName := ⟨RJ0, "checkBoundsBeginEnd", "(III)V"⟩
def RJ1 : String := "java/lang/StringLatin1"
def TJ1 : u_T := fun k => match k with
  | _ => ("", "", "", false)
def tyJ1 : Nat → FieldType := fun k => match k with
  | _ => .int
abbrev wsJ10 : List Cond := u_ws RJ1 TJ1 0
theorem nmJ1 : ∀ a, a < 0 → ∀ b, b < 0 → a ≠ b → (TJ1 a).2.1 ≠ (TJ1 b).2.1 := by decide +kernel
theorem tyJ1_ok : ∀ k, k < 0 → parseFieldDescriptor (TJ1 k).2.2.1 = some (tyJ1 k) := by decide +kernel
abbrev cJ1_canEncode_9a6ad : ByteArray := prog_15_method_4_code
def yJ1_canEncode_9a6ad : MethodName := ⟨RJ1, "canEncode", "(I)Z"⟩
abbrev cJ1_indexOf_4cfef : ByteArray := prog_15_method_22_code
def yJ1_indexOf_4cfef : MethodName := ⟨RJ1, "indexOf", "([BIII)I"⟩
abbrev cJ1_indexOfChar_4cfef : ByteArray := prog_15_method_23_code
def yJ1_indexOfChar_4cfef : MethodName := ⟨RJ1, "indexOfChar", "([BIII)I"⟩
def RJ2 : String := "java/lang/StringUTF16"
def TJ2 : u_T := fun k => match k with
  | _ => ("", "", "", false)
def tyJ2 : Nat → FieldType := fun k => match k with
  | _ => .int
abbrev wsJ20 : List Cond := u_ws RJ2 TJ2 0
theorem nmJ2 : ∀ a, a < 0 → ∀ b, b < 0 → a ≠ b → (TJ2 a).2.1 ≠ (TJ2 b).2.1 := by decide +kernel
theorem tyJ2_ok : ∀ k, k < 0 → parseFieldDescriptor (TJ2 k).2.2.1 = some (tyJ2 k) := by decide +kernel
abbrev cJ2_getChar_3b067 : ByteArray := prog_16_method_5_code
def yJ2_getChar_3b067 : MethodName := ⟨RJ2, "getChar", "([BI)C"⟩
abbrev cJ2_length_9d52b : ByteArray := prog_16_method_6_code
def yJ2_length_9d52b : MethodName := ⟨RJ2, "length", "([B)I"⟩
abbrev cJ2_indexOf_4cfef : ByteArray := prog_16_method_40_code
def yJ2_indexOf_4cfef : MethodName := ⟨RJ2, "indexOf", "([BIII)I"⟩
abbrev cJ2_indexOfChar_4cfef : ByteArray := prog_16_method_47_code
def yJ2_indexOfChar_4cfef : MethodName := ⟨RJ2, "indexOfChar", "([BIII)I"⟩
abbrev cJ2_indexOfCharUnsafe_4cfef : ByteArray := prog_16_method_48_code
def yJ2_indexOfCharUnsafe_4cfef : MethodName := ⟨RJ2, "indexOfCharUnsafe", "([BIII)I"⟩
abbrev cJ2_indexOfSupplementary_4cfef : ByteArray := prog_16_method_49_code
def yJ2_indexOfSupplementary_4cfef : MethodName := ⟨RJ2, "indexOfSupplementary", "([BIII)I"⟩
abbrev cJ2_checkBoundsBeginEnd_d044e : ByteArray := prog_16_method_93_code
def yJ2_checkBoundsBeginEnd_d044e : MethodName := ⟨RJ2, "checkBoundsBeginEnd", "(II[B)V"⟩
def RJ10 : String := "java/lang/System"
def TJ10 : u_T := fun k => match k with
  | _ => ("", "", "", false)
def tyJ10 : Nat → FieldType := fun k => match k with
  | _ => .int
abbrev wsJ100 : List Cond := u_ws RJ10 TJ10 0
theorem nmJ10 : ∀ a, a < 0 → ∀ b, b < 0 → a ≠ b → (TJ10 a).2.1 ≠ (TJ10 b).2.1 := by decide +kernel
theorem tyJ10_ok : ∀ k, k < 0 → parseFieldDescriptor (TJ10 k).2.2.1 = some (tyJ10 k) := by decide +kernel
def RJxfd54e : String := "java/lang/constant/Constable"
def TJxfd54e : u_T := fun k => match k with
  | _ => ("", "", "", false)
def tyJxfd54e : Nat → FieldType := fun k => match k with
  | _ => .int
abbrev wsJxfd54e0 : List Cond := u_ws RJxfd54e TJxfd54e 0
theorem nmJxfd54e : ∀ a, a < 0 → ∀ b, b < 0 → a ≠ b → (TJxfd54e a).2.1 ≠ (TJxfd54e b).2.1 := by decide +kernel
theorem tyJxfd54e_ok : ∀ k, k < 0 → parseFieldDescriptor (TJxfd54e k).2.2.1 = some (tyJxfd54e k) := by decide +kernel
def RJx3cf43 : String := "java/lang/constant/ConstantDesc"
def TJx3cf43 : u_T := fun k => match k with
  | _ => ("", "", "", false)
def tyJx3cf43 : Nat → FieldType := fun k => match k with
  | _ => .int
abbrev wsJx3cf430 : List Cond := u_ws RJx3cf43 TJx3cf43 0
theorem nmJx3cf43 : ∀ a, a < 0 → ∀ b, b < 0 → a ≠ b → (TJx3cf43 a).2.1 ≠ (TJx3cf43 b).2.1 := by decide +kernel
theorem tyJx3cf43_ok : ∀ k, k < 0 → parseFieldDescriptor (TJx3cf43 k).2.2.1 = some (tyJx3cf43 k) := by decide +kernel
def RJ7 : String := "java/util/Arrays"
def TJ7 : u_T := fun k => match k with
  | _ => ("", "", "", false)
def tyJ7 : Nat → FieldType := fun k => match k with
  | _ => .int
abbrev wsJ70 : List Cond := u_ws RJ7 TJ7 0
theorem nmJ7 : ∀ a, a < 0 → ∀ b, b < 0 → a ≠ b → (TJ7 a).2.1 ≠ (TJ7 b).2.1 := by decide +kernel
theorem tyJ7_ok : ∀ k, k < 0 → parseFieldDescriptor (TJ7 k).2.2.1 = some (tyJ7 k) := by decide +kernel
abbrev cJ7_fill_53178 : ByteArray := prog_18_method_103_code
def yJ7_fill_53178 : MethodName := ⟨RJ7, "fill", "([II)V"⟩
def RJ3 : String := "jdk/internal/util/Preconditions"
def TJ3 : u_T := fun k => match k with
  | _ => ("", "", "", false)
def tyJ3 : Nat → FieldType := fun k => match k with
  | _ => .int
abbrev wsJ30 : List Cond := u_ws RJ3 TJ3 0
theorem nmJ3 : ∀ a, a < 0 → ∀ b, b < 0 → a ≠ b → (TJ3 a).2.1 ≠ (TJ3 b).2.1 := by decide +kernel
theorem tyJ3_ok : ∀ k, k < 0 → parseFieldDescriptor (TJ3 k).2.2.1 = some (tyJ3 k) := by decide +kernel
abbrev cJ3_checkFromToIndex_8c36e : ByteArray := prog_19_method_12_code
def yJ3_checkFromToIndex_8c36e : MethodName := ⟨RJ3, "checkFromToIndex", "(IIILjava/util/function/BiFunction;)I"⟩
def RL : String := "ElevenYoghurtsLaw"
abbrev cL_law : ByteArray := code
def yL_law : MethodName := ⟨RL, "law", "([I)Z"⟩
abbrev vwCl : List vw_C := [(RX0, TX0, 15), (RX1, TX1, 5), (RX2, TX2, 6), (RX3, TX3, 5), (RX4, TX4, 3), (RX5, TX5, 7), (RX6, TX6, 7), (RX7, TX7, 9), (RX8, TX8, 22)]
end
section
/-! AN INTERPRETER of the bytecode over a heap of numbered cells. A cell: its kind (0.. the classes of vwCl; 20 ints, 21 bytes, 22.. references) and its length; its ints; its references, by number. Cells from 1000 on: what stood before (static arrays 1000.., texts 2000.., the script 2999). -/
abbrev aH : Type := List (Nat × Nat) × (Nat → Nat → Int32) × List (List (Option Nat))
/-- pc, length, instruction, two numbers, a constant, a switch's arms -/
abbrev aCI : Type := Nat × Nat × Instr × Nat × Nat × Int32 × List (Int32 × Nat)
abbrev aCd : Type := List (List aCI)
abbrev aSc : Type := Option (Nat × (Nat → Int32))
abbrev aLs : Type := List (Option Value)
abbrev aRs : Type := Option (Option Value × aH)
def aFetch (cd : aCd) (pc : Nat) : Option aCI := match cd[pc / 16]? with
  | some l => l.find? (fun q => q.1 == pc)
  | none => none
def aUpd (I : Nat → Nat → Int32) (a k : Nat) (x : Int32) : Nat → Nat → Int32 := fun b j => if b = a then upd (I b) k x j else I b j
def aP (P : List (List (Option Nat))) (a k : Nat) : Option Nat := (P.getD a []).getD k none
def aSetP (P : List (List (Option Nat))) (a k : Nat) (v : Option Nat) : List (List (Option Nat)) := P.set a ((P.getD a []).set k v)
def aCpy (I : Nat → Nat → Int32) (a b sp dp n : Nat) : Nat → Nat → Int32 := fun c j => if c = b then va_cpy (I a) (I b) sp dp n j else I c j
/-- a field's type: 0 int, 1 boolean, 2 reference -/
def aFT : List (List Nat) := [[2,2,2,2,2,2,0,0,0,0,0,0,0,0,0],[0,2,2,2,0],[0,0,0,0,0,0],[2,2,0,0,2],[2,0,0],[0,0,0,0,0,1,0],[2,0,0,1,0,0,0],[2,2,2,2,2,2,2,2,0],[2,2,2,0,2,0,0,0,0,2,2,2,2,2,0,2,0,1,2,2,2,2]]
def aFk (ci k : Nat) : Nat := (aFT.getD ci []).getD k 9
def aLen (ci : Nat) : Nat := (aFT.getD ci []).length
/-- the static arrays and the script -/
def aKA : List Int32 := [-1, 0, 0, 0, 1, 2, 0]
def aMM : List Int32 := [2, 3, 9, 1]
def aBO : List Int32 := [10, 11, 12, 13, 20, 0, 0, 21, 0, 30, 0, 0, 0, 0, 40, 0, 50, 0, 51, 0, 0, 60, 0, 0, 70, 71, 0, 0]
def aSt (scr : aSc) (a : Nat) : Option (Nat × (Nat → Int32)) :=
  if a = 1000 then some (7, fun j => aKA.getD j 0) else if a = 1001 then some (4, fun j => aMM.getD j 0) else if a = 1002 then some (28, fun j => aBO.getD j 0) else if a = 2999 then scr else none
/-- the texts: 0 "", 1 "loa", 2 "lso" -/
def aTx : List (List Int32) := [[], [108, 111, 97], [108, 115, 111]]
def aPush (v : Value) (ls : aLs) (i : Nat) : Option aLs :=
  if i < ls.length then (match i with
    | 0 => some (ls.set 0 (some v))
    | j + 1 => match ls[j]? with
      | some (some w) => if w.category = 2 then none else some (ls.set (j + 1) (some v))
      | _ => some (ls.set (j + 1) (some v))) else none
def aSw : List (Int32 × Nat) → Nat → Int32 → (Nat → aRs) → aRs
  | [], d, _, k => k d
  | (c, t) :: r, d, x, k => if x = c then k t else aSw r d x k
def aArgs : List Value → aLs
  | [] => []
  | v :: r => if v.category = 2 then some v :: none :: aArgs r else some v :: aArgs r
def aInit (vs : List Value) (n : Nat) : aLs := aArgs vs ++ List.replicate (n - (aArgs vs).length) none
def aCat (st : List Value) : Nat := (st.map fun v => v.category).sum
def aLoad (k : List Value → aRs) (ls : aLs) (i : Nat) (st : List Value) : aRs := match ls[i]? with
  | some (some v) => k (v :: st)
  | _ => none
def aILoad (k : List Value → aRs) (ls : aLs) (i : Nat) (st : List Value) : aRs := match ls[i]? with
  | some (some (.int v)) => k (.int v :: st)
  | _ => none
def aRLoad (k : List Value → aRs) (ls : aLs) (i : Nat) (st : List Value) : aRs := match ls[i]? with
  | some (some (.ref v)) => k (.ref v :: st)
  | some (some .null) => k (.null :: st)
  | _ => none
def aLLoad (k : List Value → aRs) (ls : aLs) (i : Nat) (st : List Value) : aRs := match ls[i]? with
  | some (some (.long v)) => k (.long v :: st)
  | _ => none
def aIStore (k : aLs → List Value → aRs) (ls : aLs) (i : Nat) (st : List Value) : aRs := match st with
  | .int v :: st => (match aPush (.int v) ls i with
    | some ls => k ls st
    | none => none)
  | _ => none
def aRStore (k : aLs → List Value → aRs) (ls : aLs) (i : Nat) (st : List Value) : aRs := match st with
  | .ref v :: st => (match aPush (.ref v) ls i with
    | some ls => k ls st
    | none => none)
  | .null :: st => (match aPush .null ls i with
    | some ls => k ls st
    | none => none)
  | _ => none
def aBin (k : List Value → aRs) (f : Int32 → Int32 → Int32) (st : List Value) : aRs := match st with
  | .int y :: .int x :: st => k (.int (f x y) :: st)
  | _ => none
def aBinL (k : List Value → aRs) (f : Int64 → Int64 → Int64) (st : List Value) : aRs := match st with
  | .long y :: .long x :: st => k (.long (f x y) :: st)
  | _ => none
def aShL (k : List Value → aRs) (f : Int64 → Int32 → Int64) (st : List Value) : aRs := match st with
  | .int y :: .long x :: st => k (.long (f x y) :: st)
  | _ => none
def aUn (k : List Value → aRs) (f : Int32 → Int32) (st : List Value) : aRs := match st with
  | .int x :: st => k (.int (f x) :: st)
  | _ => none
def aIf (k : Nat → List Value → aRs) (c : Jvm.ClassFile.Cond) (t n : Nat) (st : List Value) : aRs := match st with
  | .int x :: st => (match c with
    | .eq => if x = 0 then k t st else k n st
    | .ne => if x = 0 then k n st else k t st
    | .lt => if x < 0 then k t st else k n st
    | .ge => if 0 ≤ x then k t st else k n st
    | .gt => if 0 < x then k t st else k n st
    | .le => if x ≤ 0 then k t st else k n st)
  | _ => none
def aIc (k : Nat → List Value → aRs) (c : Jvm.ClassFile.Cond) (t n : Nat) (st : List Value) : aRs := match st with
  | .int y :: .int x :: st => (match c with
    | .eq => if x = y then k t st else k n st
    | .ne => if x = y then k n st else k t st
    | .lt => if x < y then k t st else k n st
    | .ge => if y ≤ x then k t st else k n st
    | .gt => if y < x then k t st else k n st
    | .le => if x ≤ y then k t st else k n st)
  | _ => none
def aGet (k : List Value → aRs) (ci f : Nat) (H : aH) (st : List Value) : aRs := match st with
  | .ref a :: st => if H.1[a]? = some (ci, aLen ci) then (match aFk ci f with
      | 0 => k (.int (H.2.1 a f) :: st)
      | 1 => k (.int (H.2.1 a f) :: st)
      | 2 => (match aP H.2.2 a f with
        | some b => k (.ref b :: st)
        | none => k (.null :: st))
      | _ => none) else none
  | _ => none
def aPut (k : List Value → aH → aRs) (ci f : Nat) (H : aH) (st : List Value) : aRs := match st with
  | .int x :: .ref a :: st => if H.1[a]? = some (ci, aLen ci) then (match aFk ci f with
      | 0 => k st (H.1, aUpd H.2.1 a f x, H.2.2)
      | 1 => if x = 0 ∨ x = 1 then k st (H.1, aUpd H.2.1 a f x, H.2.2) else none
      | _ => none) else none
  | .ref x :: .ref a :: st => if H.1[a]? = some (ci, aLen ci) then (match aFk ci f with
      | 2 => if f < (H.2.2.getD a []).length then k st (H.1, H.2.1, aSetP H.2.2 a f (some x)) else none
      | _ => none) else none
  | _ => none
def aIald (k : List Value → aRs) (scr : aSc) (H : aH) (st : List Value) : aRs := match st with
  | .int i :: .ref a :: st => (match H.1[a]? with
    | some q => if q.1 = 20 then (if i < 0 ∨ q.2 ≤ i.toNatClampNeg then none else k (.int (H.2.1 a i.toNatClampNeg) :: st)) else none
    | none => match aSt scr a with
      | some q => if i < 0 ∨ q.1 ≤ i.toNatClampNeg then none else k (.int (q.2 i.toNatClampNeg) :: st)
      | none => none)
  | _ => none
def aBald (k : List Value → aRs) (H : aH) (st : List Value) : aRs := match st with
  | .int i :: .ref a :: st => (match H.1[a]? with
    | some q => if q.1 = 21 then (if i < 0 ∨ q.2 ≤ i.toNatClampNeg then none else k (.int (H.2.1 a i.toNatClampNeg) :: st)) else none
    | none => if 2500 ≤ a ∧ a < 2503 then (if i < 0 ∨ (aTx.getD (a - 2500) []).length ≤ i.toNatClampNeg then none else k (.int ((aTx.getD (a - 2500) []).getD i.toNatClampNeg 0) :: st)) else none)
  | _ => none
def aAald (k : List Value → aRs) (H : aH) (st : List Value) : aRs := match st with
  | .int i :: .ref a :: st => (match H.1[a]? with
    | some q => if 22 ≤ q.1 ∧ q.1 ≤ 24 then (if i < 0 ∨ q.2 ≤ i.toNatClampNeg then none else (match aP H.2.2 a i.toNatClampNeg with
      | some b => k (.ref b :: st)
      | none => k (.null :: st))) else none
    | none => none)
  | _ => none
def aIast (k : List Value → aH → aRs) (H : aH) (st : List Value) : aRs := match st with
  | .int x :: .int i :: .ref a :: st => (match H.1[a]? with
    | some q => if q.1 = 20 then (if i < 0 ∨ q.2 ≤ i.toNatClampNeg then none else k st (H.1, aUpd H.2.1 a i.toNatClampNeg x, H.2.2)) else none
    | none => none)
  | _ => none
def aBast (k : List Value → aH → aRs) (H : aH) (st : List Value) : aRs := match st with
  | .int x :: .int i :: .ref a :: st => (match H.1[a]? with
    | some q => if q.1 = 21 then (if i < 0 ∨ q.2 ≤ i.toNatClampNeg then none else k st (H.1, aUpd H.2.1 a i.toNatClampNeg x.toInt8.toInt32, H.2.2)) else none
    | none => none)
  | _ => none
/-- an array of references takes an object of its kind's class -/
def aKc (kd : Nat) : Nat := if kd = 22 then 2 else if kd = 23 then 5 else 4
def aAast (k : List Value → aH → aRs) (H : aH) (st : List Value) : aRs := match st with
  | .ref x :: .int i :: .ref a :: st => (match H.1[a]? with
    | some q => if 22 ≤ q.1 ∧ q.1 ≤ 24 then (if i < 0 ∨ q.2 ≤ i.toNatClampNeg then none else (if H.1[x]? = some (aKc q.1, aLen (aKc q.1)) ∧ i.toNatClampNeg < (H.2.2.getD a []).length then k st (H.1, H.2.1, aSetP H.2.2 a i.toNatClampNeg (some x)) else none)) else none
    | none => none)
  | _ => none
def aAlen (k : List Value → aRs) (scr : aSc) (H : aH) (st : List Value) : aRs := match st with
  | .ref a :: st => (match H.1[a]? with
    | some q => if 20 ≤ q.1 ∧ q.1 ≤ 24 then k (.int (Int32.ofNat q.2) :: st) else none
    | none => match aSt scr a with
      | some q => k (.int (Int32.ofNat q.1) :: st)
      | none => if 2500 ≤ a ∧ a < 2503 then k (.int (Int32.ofNat (aTx.getD (a - 2500) []).length) :: st) else none)
  | _ => none
/-- a new cell of a kind, with n places -/
def aNew (kd n : Nat) (H : aH) : aH := (H.1 ++ [(kd, n)], fun b j => if b = H.1.length then 0 else H.2.1 b j, H.2.2 ++ [if kd = 20 ∨ kd = 21 then [] else List.replicate n none])
def aNewA (k : List Value → aH → aRs) (kd : Nat) (H : aH) (st : List Value) : aRs := match st with
  | .int n :: st => if n < 0 ∨ 1000 < n.toNatClampNeg ∨ 900 < H.1.length then none else k (.ref H.1.length :: st) (aNew kd n.toNatClampNeg H)
  | _ => none
def aAty : ArrayType → Nat
  | .int => 20
  | .byte => 21
  | _ => 99
/-- System.arraycopy of ints or bytes -/
def aCopy (k : List Value → aH → aRs) (H : aH) (st : List Value) : aRs := match st with
  | .int n :: .int dp :: .ref b :: .int sp :: .ref a :: st => (match H.1[a]?, H.1[b]? with
    | some q, some r => if (q.1 = 20 ∨ q.1 = 21) ∧ aCat st ≤ 8 ∧ r.1 = q.1 ∧ ¬ sp < 0 ∧ ¬ dp < 0 ∧ ¬ n < 0 ∧ sp.toNatClampNeg + n.toNatClampNeg ≤ q.2 ∧ dp.toNatClampNeg + n.toNatClampNeg ≤ r.2 ∧ (q.1 = 21 → ∀ i, i < n.toNatClampNeg → fits .byte (.int (H.2.1 a (sp.toNatClampNeg + i))) = true)
        then k st (H.1, aCpy H.2.1 a b sp.toNatClampNeg dp.toNatClampNeg n.toNatClampNeg, H.2.2) else none
    | _, _ => none)
  | _ => none
def aSplit (n : Nat) (st : List Value) : List Value × List Value := ((st.take n).reverse, st.drop n)
def aRet (k : List Value → aH → aRs) (r : aRs) (st : List Value) : aRs := match r with
  | some (some v, H) => k (v :: st) H
  | some (none, H) => k st H
  | none => none
/-- a call: x the method, y how many arguments (the receiver counts). 900.. are the library's own -/
def aCallI (k : List Value → aH → aRs) (cl : Nat → List Value → aH → aRs) (x y : Nat) (H : aH) (st : List Value) : aRs :=
  if y ≤ st.length ∧ aCat (st.drop y) ≤ 8 then aRet k (cl x (st.take y).reverse H) (st.drop y) else none
/-- of an object: m arguments under which the receiver lies, one of class ci -/
def aCallV (k : List Value → aH → aRs) (cl : Nat → List Value → aH → aRs) (x m ci : Nat) (H : aH) (st : List Value) : aRs := match st[m]? with
  | some (.ref b) => if H.1[b]? = some (ci, aLen ci) ∨ (ci = 12 ∧ 2000 ≤ b ∧ b < 2003) then aCallI k cl x (m + 1) H st else none
  | _ => none
def aCallC (k : List Value → aH → aRs) (cl : Nat → List Value → aH → aRs) (x m : Nat) (H : aH) (st : List Value) : aRs := match st[m]? with
  | some (.ref _) => aCallI k cl x (m + 1) H st
  | _ => none
def aMax (k : List Value → aRs) (st : List Value) : aRs := match st with
  | .int y :: .int x :: st => if aCat st ≤ 8 then k (.int (if x < y then y else x) :: st) else none
  | _ => none
def aMin (k : List Value → aRs) (st : List Value) : aRs := match st with
  | .int y :: .int x :: st => if aCat st ≤ 8 then k (.int (if y < x then y else x) :: st) else none
  | _ => none
/-- a field of a text: 0 its bytes, 1 its coder -/
def aGetS (k : List Value → aRs) (y : Nat) (st : List Value) : aRs := match st with
  | .ref a :: st => if 2000 ≤ a ∧ a < 2003 then (if y = 0 then k (.ref (a + 500) :: st) else k (.int 0 :: st)) else none
  | _ => none
def aPop (k : List Value → aRs) (st : List Value) : aRs := match st with
  | .ref _ :: st => if aCat st ≤ 8 then k st else none
  | _ => none
def aDiv (k : List Value → aRs) (st : List Value) : aRs := match st with
  | .int y :: .int x :: st => if y = 0 then none else k (.int (x / y) :: st)
  | _ => none
def aRem (k : List Value → aRs) (st : List Value) : aRs := match st with
  | .int y :: .int x :: st => if y = 0 then none else k (.int (x - x / y * y) :: st)
  | _ => none
def aI2l (k : List Value → aRs) (st : List Value) : aRs := match st with
  | .int x :: st => k (.long x.toInt64 :: st)
  | _ => none
def aL2i (k : List Value → aRs) (st : List Value) : aRs := match st with
  | .long x :: st => k (.int x.toInt32 :: st)
  | _ => none
def aNul (k : Nat → List Value → aRs) (t n : Nat) (st : List Value) : aRs := match st with
  | .null :: st => k t st
  | .ref _ :: st => k n st
  | _ => none
def aSwS (k : Nat → List Value → aRs) (sw : List (Int32 × Nat)) (d : Nat) (st : List Value) : aRs := match st with
  | .int v :: st => aSw sw d v (fun p => k p st)
  | _ => none
def aInc (k : aLs → aRs) (ls : aLs) (n : Nat) (c : Int32) : aRs := match ls[n]? with
  | some (some (.int v)) => (match aPush (.int (v + c)) ls n with
    | some ls => k ls
    | none => none)
  | _ => none
def aDup (k : List Value → aRs) (st : List Value) : aRs := match st with
  | v :: st => if v.category = 1 then k (v :: v :: st) else none
  | _ => none
def aDup2 (k : List Value → aRs) (st : List Value) : aRs := match st with
  | v :: w :: st => if v.category = 1 ∧ w.category = 1 then k (v :: w :: v :: w :: st) else none
  | _ => none
def aPop1 (k : List Value → aRs) (st : List Value) : aRs := match st with
  | v :: st => if v.category = 1 then k st else none
  | _ => none
def aIret (rt : Nat) (st : List Value) (H : aH) : aRs := match st with
  | [.int v] => if rt = 1 then (if v = 0 ∨ v = 1 then some (some (.int v), H) else none) else if rt = 0 then some (some (.int v), H) else none
  | _ => none
def aAret (rt : Nat) (st : List Value) (H : aH) : aRs := match st with
  | [.ref a] => if rt = 2 then some (some (.ref a), H) else none
  | [.null] => if rt = 2 then some (some .null, H) else none
  | _ => none
def aVret (rt : Nat) (st : List Value) (H : aH) : aRs := match st with
  | [] => if rt = 3 then some (none, H) else none
  | _ => none
def aStep (cl : Nat → List Value → aH → aRs) (scr : aSc) (rt : Nat) (k : Nat → aLs → List Value → aH → aRs) (q : aCI) (ls : aLs) (st : List Value) (H : aH) : aRs :=
  match q with
  | (pc, len, i, x, y, c, sw) => match i with
    | .aload_n n => aRLoad (fun st => k (pc + len) ls st H) ls n.val st
    | .aload n => aRLoad (fun st => k (pc + len) ls st H) ls n st
    | .iload_n n => aILoad (fun st => k (pc + len) ls st H) ls n.val st
    | .iload n => aILoad (fun st => k (pc + len) ls st H) ls n st
    | .lload_n n => aLLoad (fun st => k (pc + len) ls st H) ls n.val st
    | .istore_n n => aIStore (fun ls st => k (pc + len) ls st H) ls n.val st
    | .istore n => aIStore (fun ls st => k (pc + len) ls st H) ls n st
    | .astore_n n => aRStore (fun ls st => k (pc + len) ls st H) ls n.val st
    | .astore n => aRStore (fun ls st => k (pc + len) ls st H) ls n st
    | .aconst_null => k (pc + len) ls (.null :: st) H
    | .iconst _ => k (pc + len) ls (.int c :: st) H
    | .bipush _ => k (pc + len) ls (.int c :: st) H
    | .sipush _ => k (pc + len) ls (.int c :: st) H
    | .ldc _ => if y = 0 then k (pc + len) ls (.int c :: st) H else k (pc + len) ls (.ref x :: st) H
    | .ldc_w _ => k (pc + len) ls (.int c :: st) H
    | .ldc2_w _ => k (pc + len) ls (.long (Int64.ofNat x) :: st) H
    | .getfield _ => if x = 50 then aGetS (fun st => k (pc + len) ls st H) y st else aGet (fun st => k (pc + len) ls st H) x y H st
    | .putfield _ => aPut (fun st H => k (pc + len) ls st H) x y H st
    | .getstatic _ => if x = 1 then k (pc + len) ls (.int 1 :: st) H else k (pc + len) ls (.ref x :: st) H
    | .iadd => aBin (fun st => k (pc + len) ls st H) (fun x y => x + y) st
    | .isub => aBin (fun st => k (pc + len) ls st H) (fun x y => x - y) st
    | .imul => aBin (fun st => k (pc + len) ls st H) (fun x y => x * y) st
    | .idiv => aDiv (fun st => k (pc + len) ls st H) st
    | .irem => aRem (fun st => k (pc + len) ls st H) st
    | .ineg => aUn (fun st => k (pc + len) ls st H) (fun x => -x) st
    | .iand => aBin (fun st => k (pc + len) ls st H) (fun x y => x &&& y) st
    | .ior => aBin (fun st => k (pc + len) ls st H) (fun x y => x ||| y) st
    | .ixor => aBin (fun st => k (pc + len) ls st H) (fun x y => x ^^^ y) st
    | .ishl => aBin (fun st => k (pc + len) ls st H) (fun x y => x <<< (y &&& 31)) st
    | .ishr => aBin (fun st => k (pc + len) ls st H) (fun x y => x >>> (y &&& 31)) st
    | .iushr => aBin (fun st => k (pc + len) ls st H) (fun x y => (x.toUInt32 >>> (y.toUInt32 &&& Int32.toUInt32 31)).toInt32) st
    | .lshl => aShL (fun st => k (pc + len) ls st H) (fun x y => x <<< (y.toInt64 &&& 63)) st
    | .lshr => aShL (fun st => k (pc + len) ls st H) (fun x y => x >>> (y.toInt64 &&& 63)) st
    | .lushr => aShL (fun st => k (pc + len) ls st H) (fun x y => (x.toUInt64 >>> (y.toInt64.toUInt64 &&& Int64.toUInt64 63)).toInt64) st
    | .land => aBinL (fun st => k (pc + len) ls st H) (fun x y => x &&& y) st
    | .lor => aBinL (fun st => k (pc + len) ls st H) (fun x y => x ||| y) st
    | .i2l => aI2l (fun st => k (pc + len) ls st H) st
    | .l2i => aL2i (fun st => k (pc + len) ls st H) st
    | .i2b => aUn (fun st => k (pc + len) ls st H) (fun x => x.toInt8.toInt32) st
    | .i2s => aUn (fun st => k (pc + len) ls st H) (fun x => x.toInt16.toInt32) st
    | .i2c => aUn (fun st => k (pc + len) ls st H) (fun x => (x.toUInt32 % 65536).toInt32) st
    | .ifCond cd _ => aIf (fun p st => k p ls st H) cd x (pc + len) st
    | .if_icmp cd _ => aIc (fun p st => k p ls st H) cd x (pc + len) st
    | .ifnull _ => aNul (fun p st => k p ls st H) x (pc + len) st
    | .ifnonnull _ => aNul (fun p st => k p ls st H) (pc + len) x st
    | .goto _ => k x ls st H
    | .tableswitch _ _ _ _ => aSwS (fun p st => k p ls st H) sw x st
    | .lookupswitch _ _ => aSwS (fun p st => k p ls st H) sw x st
    | .iinc n _ => aInc (fun ls => k (pc + len) ls st H) ls n c
    | .dup => aDup (fun st => k (pc + len) ls st H) st
    | .dup2 => aDup2 (fun st => k (pc + len) ls st H) st
    | .pop => aPop1 (fun st => k (pc + len) ls st H) st
    | .newarray t => aNewA (fun st H => k (pc + len) ls st H) (aAty t) H st
    | .anewarray _ => aNewA (fun st H => k (pc + len) ls st H) x H st
    | .new _ => if 900 < H.1.length then none else k (pc + len) ls (.ref H.1.length :: st) (aNew x (aLen x) H)
    | .iaload => aIald (fun st => k (pc + len) ls st H) scr H st
    | .baload => aBald (fun st => k (pc + len) ls st H) H st
    | .aaload => aAald (fun st => k (pc + len) ls st H) H st
    | .iastore => aIast (fun st H => k (pc + len) ls st H) H st
    | .bastore => aBast (fun st H => k (pc + len) ls st H) H st
    | .aastore => aAast (fun st H => k (pc + len) ls st H) H st
    | .arraylength => aAlen (fun st => k (pc + len) ls st H) scr H st
    | .ireturn => aIret rt st H
    | .areturn => aAret rt st H
    | .return_ => aVret rt st H
    | .invokevirtual _ => if x < 900 then aCallV (fun st H => k (pc + len) ls st H) cl x (y % 100) (y / 100) H st else none
    | .invokestatic _ => if x = 900 then aMax (fun st => k (pc + len) ls st H) st else if x = 901 then aMin (fun st => k (pc + len) ls st H) st else if x = 902 then aCopy (fun st H => k (pc + len) ls st H) H st else if x < 900 then aCallI (fun st H => k (pc + len) ls st H) cl x y H st else none
    | .invokespecial _ => if x = 904 then aPop (fun st => k (pc + len) ls st H) st else if x < 900 then aCallC (fun st H => k (pc + len) ls st H) cl x y H st else none
    | _ => none
def aRun (cl : Nat → List Value → aH → aRs) (scr : aSc) (cd : aCd) (rt : Nat) : Nat → Nat → aLs → List Value → aH → aRs
  | 0, _, _, _, _ => none
  | n + 1, pc, ls, st, H => match aFetch cd pc with
    | some q => aStep cl scr rt (aRun cl scr cd rt n) q ls st H
    | none => none
/-- a method: its name, bytes, locals, return type, the class it stands in, its arguments (the receiver counts), static (0), of an object (1) or a constructor (2), the code -/
abbrev aMeth : Type := MethodName × ByteArray × Nat × Option FieldType × String × Nat × Nat × aCd
def aRt : Option FieldType → Nat
  | some .int => 0
  | some .boolean => 1
  | some .byte => 1
  | some (.object _) => 2
  | none => 3
  | _ => 9
/-- with fuel enough -/
noncomputable def aGo (cl : Nat → List Value → aH → aRs) (scr : aSc) (cd : aCd) (rt : Nat) (pc : Nat) (ls : aLs) (st : List Value) (H : aH) : aRs :=
  @dite _ (∃ (r : Option Value × aH) (n : Nat), aRun cl scr cd rt n pc ls st H = some r) (Classical.propDecidable _) (fun h => some h.choose) (fun _ => none)
noncomputable def aCall (mt : List aMeth) : Nat → Nat → List Value → aH → aRs
  | 0, _, _, _ => none
  | d + 1, x, vs, H => match mt[x]? with
    | some q => if vs.length = q.2.2.2.2.2.1 ∧ (aArgs vs).length ≤ q.2.2.1 ∧ q.2.2.1 ≤ 13 then aGo (aCall mt d) none q.2.2.2.2.2.2.2 (aRt q.2.2.2.1) 0 (aInit vs q.2.2.1) [] H else none
    | none => none
/-- the same, with fuel: what the kernel can count out -/
def aCallF (mt : List aMeth) (f : Nat) : Nat → Nat → List Value → aH → aRs
  | 0, _, _, _ => none
  | d + 1, x, vs, H => match mt[x]? with
    | some q => if vs.length = q.2.2.2.2.2.1 ∧ (aArgs vs).length ≤ q.2.2.1 ∧ q.2.2.1 ≤ 13 then aRun (aCallF mt f d) none q.2.2.2.2.2.2.2 (aRt q.2.2.2.1) f 0 (aInit vs q.2.2.1) [] H else none
    | none => none
end
section
/-! the code, read once (by program out of the printed decode rows and tables); own classes by number -/
def aOwn : List String := [RX0, RX1, RX2, RX3, RX4, RX5, RX6, RX7, RX8, RL, "java/lang/Integer", "java/util/Arrays", "java/lang/String", "java/lang/StringLatin1"]
def cd_0 : aCd := [
  [(0, 1, .aload_n 0, 0, 0, 0, []),
   (1, 3, .invokespecial 3, 904, 0, 0, []),
   (4, 1, .aload_n 0, 0, 0, 0, []),
   (5, 2, .bipush 8, 0, 0, 8, []),
   (7, 3, .anewarray 9, 22, 0, 0, []),
   (10, 3, .putfield 11, 0, 0, 0, []),
   (13, 1, .aload_n 0, 0, 0, 0, []),
   (14, 2, .bipush 10, 0, 0, 10, [])],
  [(16, 3, .anewarray 17, 23, 0, 0, []),
   (19, 3, .putfield 19, 0, 1, 0, []),
   (22, 1, .aload_n 0, 0, 0, 0, []),
   (23, 3, .new 23, 1, 0, 0, []),
   (26, 1, .dup, 0, 0, 0, []),
   (27, 1, .iconst 0, 0, 0, 0, []),
   (28, 3, .invokespecial 25, 19, 1, 0, []),
   (31, 3, .putfield 28, 0, 2, 0, [])],
  [(34, 1, .aload_n 0, 0, 0, 0, []),
   (35, 3, .new 23, 1, 0, 0, []),
   (38, 1, .dup, 0, 0, 0, []),
   (39, 1, .iconst 1, 0, 0, 1, []),
   (40, 3, .invokespecial 25, 19, 1, 0, []),
   (43, 3, .putfield 32, 0, 3, 0, []),
   (46, 1, .aload_n 0, 0, 0, 0, []),
   (47, 2, .bipush 60, 0, 0, 60, [])],
  [(49, 2, .newarray .byte, 0, 0, 0, []),
   (51, 3, .putfield 35, 0, 4, 0, []),
   (54, 1, .aload_n 0, 0, 0, 0, []),
   (55, 2, .bipush 24, 0, 0, 24, []),
   (57, 2, .newarray .int, 0, 0, 0, []),
   (59, 3, .putfield 39, 0, 5, 0, []),
   (62, 1, .aload_n 0, 0, 0, 0, []),
   (63, 1, .iconst 1, 0, 0, 1, [])],
  [(64, 3, .putfield 43, 0, 14, 0, []),
   (67, 1, .iconst 0, 0, 0, 0, []),
   (68, 1, .istore_n 1, 0, 0, 0, []),
   (69, 1, .iload_n 1, 0, 0, 0, []),
   (70, 2, .bipush 8, 0, 0, 8, []),
   (72, 3, .if_icmp .ge 23, 95, 0, 0, []),
   (75, 1, .aload_n 0, 0, 0, 0, []),
   (76, 3, .getfield 11, 0, 0, 0, []),
   (79, 1, .iload_n 1, 0, 0, 0, [])],
  [(80, 3, .new 9, 2, 0, 0, []),
   (83, 1, .dup, 0, 0, 0, []),
   (84, 1, .iload_n 1, 0, 0, 0, []),
   (85, 3, .invokespecial 47, 28, 1, 0, []),
   (88, 1, .aastore, 0, 0, 0, []),
   (89, 3, .iinc 1 1, 0, 0, 1, []),
   (92, 3, .goto (-23), 69, 0, 0, []),
   (95, 1, .iconst 0, 0, 0, 0, [])],
  [(96, 1, .istore_n 1, 0, 0, 0, []),
   (97, 1, .iload_n 1, 0, 0, 0, []),
   (98, 2, .bipush 10, 0, 0, 10, []),
   (100, 3, .if_icmp .ge 22, 122, 0, 0, []),
   (103, 1, .aload_n 0, 0, 0, 0, []),
   (104, 3, .getfield 19, 0, 1, 0, []),
   (107, 1, .iload_n 1, 0, 0, 0, []),
   (108, 3, .new 17, 5, 0, 0, []),
   (111, 1, .dup, 0, 0, 0, [])],
  [(112, 3, .invokespecial 48, 50, 0, 0, []),
   (115, 1, .aastore, 0, 0, 0, []),
   (116, 3, .iinc 1 1, 0, 0, 1, []),
   (119, 3, .goto (-22), 97, 0, 0, []),
   (122, 1, .return_, 0, 0, 0, [])]]
def cd_1 : aCd := [
  [(0, 1, .aload_n 0, 0, 0, 0, []),
   (1, 1, .aload_n 1, 0, 0, 0, []),
   (2, 3, .getfield 49, 0, 6, 0, []),
   (5, 3, .putfield 49, 0, 6, 0, []),
   (8, 1, .aload_n 0, 0, 0, 0, []),
   (9, 1, .aload_n 1, 0, 0, 0, []),
   (10, 3, .getfield 52, 0, 7, 0, []),
   (13, 3, .putfield 52, 0, 7, 0, [])],
  [(16, 1, .aload_n 0, 0, 0, 0, []),
   (17, 1, .aload_n 1, 0, 0, 0, []),
   (18, 3, .getfield 55, 0, 8, 0, []),
   (21, 3, .putfield 55, 0, 8, 0, []),
   (24, 1, .aload_n 0, 0, 0, 0, []),
   (25, 1, .aload_n 1, 0, 0, 0, []),
   (26, 3, .getfield 58, 0, 9, 0, []),
   (29, 3, .putfield 58, 0, 9, 0, [])],
  [(32, 1, .aload_n 0, 0, 0, 0, []),
   (33, 1, .aload_n 1, 0, 0, 0, []),
   (34, 3, .getfield 61, 0, 10, 0, []),
   (37, 3, .putfield 61, 0, 10, 0, []),
   (40, 1, .aload_n 0, 0, 0, 0, []),
   (41, 1, .aload_n 1, 0, 0, 0, []),
   (42, 3, .getfield 64, 0, 11, 0, []),
   (45, 3, .putfield 64, 0, 11, 0, [])],
  [(48, 1, .aload_n 0, 0, 0, 0, []),
   (49, 1, .aload_n 1, 0, 0, 0, []),
   (50, 3, .getfield 67, 0, 12, 0, []),
   (53, 3, .putfield 67, 0, 12, 0, []),
   (56, 1, .aload_n 0, 0, 0, 0, []),
   (57, 1, .aload_n 1, 0, 0, 0, []),
   (58, 3, .getfield 70, 0, 13, 0, []),
   (61, 3, .putfield 70, 0, 13, 0, [])],
  [(64, 1, .aload_n 0, 0, 0, 0, []),
   (65, 1, .aload_n 1, 0, 0, 0, []),
   (66, 3, .getfield 43, 0, 14, 0, []),
   (69, 3, .putfield 43, 0, 14, 0, []),
   (72, 1, .iconst 0, 0, 0, 0, []),
   (73, 1, .istore_n 2, 0, 0, 0, []),
   (74, 1, .iload_n 2, 0, 0, 0, []),
   (75, 1, .aload_n 0, 0, 0, 0, []),
   (76, 3, .getfield 49, 0, 6, 0, []),
   (79, 3, .if_icmp .ge 24, 103, 0, 0, [])],
  [(82, 1, .aload_n 0, 0, 0, 0, []),
   (83, 3, .getfield 11, 0, 0, 0, []),
   (86, 1, .iload_n 2, 0, 0, 0, []),
   (87, 1, .aaload, 0, 0, 0, []),
   (88, 1, .aload_n 1, 0, 0, 0, []),
   (89, 3, .getfield 11, 0, 0, 0, []),
   (92, 1, .iload_n 2, 0, 0, 0, []),
   (93, 1, .aaload, 0, 0, 0, []),
   (94, 3, .invokevirtual 73, 31, 201, 0, [])],
  [(97, 3, .iinc 2 1, 0, 0, 1, []),
   (100, 3, .goto (-26), 74, 0, 0, []),
   (103, 1, .iconst 0, 0, 0, 0, []),
   (104, 1, .istore_n 2, 0, 0, 0, []),
   (105, 1, .iload_n 2, 0, 0, 0, []),
   (106, 1, .aload_n 0, 0, 0, 0, []),
   (107, 3, .getfield 52, 0, 7, 0, []),
   (110, 3, .if_icmp .ge 24, 134, 0, 0, [])],
  [(113, 1, .aload_n 0, 0, 0, 0, []),
   (114, 3, .getfield 19, 0, 1, 0, []),
   (117, 1, .iload_n 2, 0, 0, 0, []),
   (118, 1, .aaload, 0, 0, 0, []),
   (119, 1, .aload_n 1, 0, 0, 0, []),
   (120, 3, .getfield 19, 0, 1, 0, []),
   (123, 1, .iload_n 2, 0, 0, 0, []),
   (124, 1, .aaload, 0, 0, 0, []),
   (125, 3, .invokevirtual 77, 52, 501, 0, [])],
  [(128, 3, .iinc 2 1, 0, 0, 1, []),
   (131, 3, .goto (-26), 105, 0, 0, []),
   (134, 1, .aload_n 0, 0, 0, 0, []),
   (135, 3, .getfield 28, 0, 2, 0, []),
   (138, 1, .aload_n 1, 0, 0, 0, []),
   (139, 3, .getfield 28, 0, 2, 0, []),
   (142, 3, .invokevirtual 80, 22, 101, 0, [])],
  [(145, 1, .aload_n 0, 0, 0, 0, []),
   (146, 3, .getfield 32, 0, 3, 0, []),
   (149, 1, .aload_n 1, 0, 0, 0, []),
   (150, 3, .getfield 32, 0, 3, 0, []),
   (153, 3, .invokevirtual 80, 22, 101, 0, []),
   (156, 1, .aload_n 1, 0, 0, 0, []),
   (157, 3, .getfield 35, 0, 4, 0, [])],
  [(160, 1, .iconst 0, 0, 0, 0, []),
   (161, 1, .aload_n 0, 0, 0, 0, []),
   (162, 3, .getfield 35, 0, 4, 0, []),
   (165, 1, .iconst 0, 0, 0, 0, []),
   (166, 2, .bipush 60, 0, 0, 60, []),
   (168, 3, .invokestatic 83, 902, 0, 0, []),
   (171, 1, .aload_n 1, 0, 0, 0, []),
   (172, 3, .getfield 39, 0, 5, 0, []),
   (175, 1, .iconst 0, 0, 0, 0, [])],
  [(176, 1, .aload_n 0, 0, 0, 0, []),
   (177, 3, .getfield 39, 0, 5, 0, []),
   (180, 1, .iconst 0, 0, 0, 0, []),
   (181, 2, .bipush 24, 0, 0, 24, []),
   (183, 3, .invokestatic 83, 902, 0, 0, []),
   (186, 1, .return_, 0, 0, 0, [])]]
def cd_2 : aCd := [
  [(0, 1, .iload_n 1, 0, 0, 0, []),
   (1, 1, .iconst 0, 0, 0, 0, []),
   (2, 1, .aload_n 0, 0, 0, 0, []),
   (3, 3, .getfield 49, 0, 6, 0, []),
   (6, 1, .iconst 1, 0, 0, 1, []),
   (7, 1, .isub, 0, 0, 0, []),
   (8, 3, .invokestatic 89, 106, 3, 0, []),
   (11, 3, .ifCond .eq 12, 23, 0, 0, []),
   (14, 1, .aload_n 0, 0, 0, 0, []),
   (15, 3, .getfield 11, 0, 0, 0, [])],
  [(18, 1, .iload_n 1, 0, 0, 0, []),
   (19, 1, .aaload, 0, 0, 0, []),
   (20, 3, .goto 4, 24, 0, 0, []),
   (23, 1, .aconst_null, 0, 0, 0, []),
   (24, 1, .areturn, 0, 0, 0, [])]]
def cd_3 : aCd := [
  [(0, 1, .iload_n 1, 0, 0, 0, []),
   (1, 1, .iconst 0, 0, 0, 0, []),
   (2, 1, .aload_n 0, 0, 0, 0, []),
   (3, 3, .getfield 52, 0, 7, 0, []),
   (6, 1, .iconst 1, 0, 0, 1, []),
   (7, 1, .isub, 0, 0, 0, []),
   (8, 3, .invokestatic 89, 106, 3, 0, []),
   (11, 3, .ifCond .eq 12, 23, 0, 0, []),
   (14, 1, .aload_n 0, 0, 0, 0, []),
   (15, 3, .getfield 19, 0, 1, 0, [])],
  [(18, 1, .iload_n 1, 0, 0, 0, []),
   (19, 1, .aaload, 0, 0, 0, []),
   (20, 3, .goto 4, 24, 0, 0, []),
   (23, 1, .aconst_null, 0, 0, 0, []),
   (24, 1, .areturn, 0, 0, 0, [])]]
def cd_4 : aCd := [
  [(0, 1, .iload_n 1, 0, 0, 0, []),
   (1, 3, .ifCond .ne 10, 11, 0, 0, []),
   (4, 1, .aload_n 0, 0, 0, 0, []),
   (5, 3, .getfield 28, 0, 2, 0, []),
   (8, 3, .goto 7, 15, 0, 0, []),
   (11, 1, .aload_n 0, 0, 0, 0, []),
   (12, 3, .getfield 32, 0, 3, 0, []),
   (15, 1, .areturn, 0, 0, 0, [])]]
def cd_5 : aCd := [
  [(0, 1, .iconst 0, 0, 0, 0, []),
   (1, 1, .istore_n 1, 0, 0, 0, []),
   (2, 1, .iconst 0, 0, 0, 0, []),
   (3, 1, .istore_n 2, 0, 0, 0, []),
   (4, 1, .iload_n 2, 0, 0, 0, []),
   (5, 1, .aload_n 0, 0, 0, 0, []),
   (6, 3, .getfield 52, 0, 7, 0, []),
   (9, 3, .if_icmp .ge 29, 38, 0, 0, []),
   (12, 1, .iload_n 1, 0, 0, 0, []),
   (13, 1, .aload_n 0, 0, 0, 0, []),
   (14, 3, .getfield 19, 0, 1, 0, [])],
  [(17, 1, .iload_n 2, 0, 0, 0, []),
   (18, 1, .aaload, 0, 0, 0, []),
   (19, 3, .getfield 93, 5, 5, 0, []),
   (22, 3, .ifCond .eq 7, 29, 0, 0, []),
   (25, 1, .iconst 1, 0, 0, 1, []),
   (26, 3, .goto 4, 30, 0, 0, []),
   (29, 1, .iconst 0, 0, 0, 0, []),
   (30, 1, .iadd, 0, 0, 0, []),
   (31, 1, .istore_n 1, 0, 0, 0, [])],
  [(32, 3, .iinc 2 1, 0, 0, 1, []),
   (35, 3, .goto (-31), 4, 0, 0, []),
   (38, 1, .iload_n 1, 0, 0, 0, []),
   (39, 1, .ireturn, 0, 0, 0, [])]]
def cd_6 : aCd := [
  [(0, 1, .iconst 0, 0, 0, 0, []),
   (1, 1, .istore_n 2, 0, 0, 0, []),
   (2, 1, .iconst 0, 0, 0, 0, []),
   (3, 1, .istore_n 3, 0, 0, 0, []),
   (4, 1, .iload_n 3, 0, 0, 0, []),
   (5, 1, .aload_n 0, 0, 0, 0, []),
   (6, 3, .getfield 52, 0, 7, 0, []),
   (9, 3, .if_icmp .ge 42, 51, 0, 0, []),
   (12, 1, .iload_n 2, 0, 0, 0, []),
   (13, 1, .aload_n 0, 0, 0, 0, []),
   (14, 3, .getfield 19, 0, 1, 0, [])],
  [(17, 1, .iload_n 3, 0, 0, 0, []),
   (18, 1, .aaload, 0, 0, 0, []),
   (19, 3, .getfield 93, 5, 5, 0, []),
   (22, 3, .ifCond .eq 20, 42, 0, 0, []),
   (25, 1, .aload_n 1, 0, 0, 0, []),
   (26, 1, .aload_n 0, 0, 0, 0, []),
   (27, 3, .getfield 19, 0, 1, 0, []),
   (30, 1, .iload_n 3, 0, 0, 0, []),
   (31, 1, .aaload, 0, 0, 0, [])],
  [(32, 3, .invokevirtual 97, 33, 201, 0, []),
   (35, 3, .ifCond .eq 7, 42, 0, 0, []),
   (38, 1, .iconst 1, 0, 0, 1, []),
   (39, 3, .goto 4, 43, 0, 0, []),
   (42, 1, .iconst 0, 0, 0, 0, []),
   (43, 1, .iadd, 0, 0, 0, []),
   (44, 1, .istore_n 2, 0, 0, 0, []),
   (45, 3, .iinc 3 1, 0, 0, 1, [])],
  [(48, 3, .goto (-44), 4, 0, 0, []),
   (51, 1, .iload_n 2, 0, 0, 0, []),
   (52, 1, .ireturn, 0, 0, 0, [])]]
def cd_7 : aCd := [
  [(0, 1, .aload_n 0, 0, 0, 0, []),
   (1, 3, .getfield 28, 0, 2, 0, []),
   (4, 1, .aload_n 1, 0, 0, 0, []),
   (5, 3, .getfield 101, 5, 1, 0, []),
   (8, 1, .aload_n 1, 0, 0, 0, []),
   (9, 3, .getfield 104, 5, 2, 0, []),
   (12, 1, .aload_n 1, 0, 0, 0, []),
   (13, 3, .getfield 107, 5, 3, 0, [])],
  [(16, 3, .invokevirtual 110, 24, 103, 0, []),
   (19, 1, .ireturn, 0, 0, 0, [])]]
def cd_8 : aCd := [
  [(0, 1, .aload_n 1, 0, 0, 0, []),
   (1, 1, .aload_n 2, 0, 0, 0, []),
   (2, 1, .aload_n 0, 0, 0, 0, []),
   (3, 3, .getfield 28, 0, 2, 0, []),
   (6, 1, .aload_n 2, 0, 0, 0, []),
   (7, 3, .getfield 101, 5, 1, 0, []),
   (10, 1, .aload_n 2, 0, 0, 0, []),
   (11, 3, .getfield 104, 5, 2, 0, []),
   (14, 1, .aload_n 2, 0, 0, 0, []),
   (15, 3, .getfield 107, 5, 3, 0, [])],
  [(18, 3, .invokevirtual 110, 24, 103, 0, []),
   (21, 3, .invokevirtual 114, 34, 202, 0, []),
   (24, 2, .istore 4, 0, 0, 0, []),
   (26, 1, .aload_n 1, 0, 0, 0, []),
   (27, 1, .aload_n 2, 0, 0, 0, []),
   (28, 3, .invokevirtual 97, 33, 201, 0, []),
   (31, 3, .ifCond .eq 8, 39, 0, 0, [])],
  [(34, 2, .iload 4, 0, 0, 0, []),
   (36, 3, .goto 22, 58, 0, 0, []),
   (39, 2, .iload 4, 0, 0, 0, []),
   (41, 1, .aload_n 0, 0, 0, 0, []),
   (42, 3, .getfield 32, 0, 3, 0, []),
   (45, 1, .aload_n 2, 0, 0, 0, []),
   (46, 3, .getfield 101, 5, 1, 0, [])],
  [(49, 1, .iload_n 3, 0, 0, 0, []),
   (50, 1, .aload_n 2, 0, 0, 0, []),
   (51, 3, .getfield 104, 5, 2, 0, []),
   (54, 3, .invokevirtual 110, 24, 103, 0, []),
   (57, 1, .isub, 0, 0, 0, []),
   (58, 1, .ireturn, 0, 0, 0, [])]]
def cd_9 : aCd := [
  [(0, 1, .iconst (-1), 0, 0, -1, []),
   (1, 1, .istore_n 3, 0, 0, 0, []),
   (2, 1, .iconst 0, 0, 0, 0, []),
   (3, 2, .istore 4, 0, 0, 0, []),
   (5, 1, .iconst 0, 0, 0, 0, []),
   (6, 2, .istore 5, 0, 0, 0, []),
   (8, 2, .iload 5, 0, 0, 0, []),
   (10, 1, .aload_n 0, 0, 0, 0, []),
   (11, 3, .getfield 52, 0, 7, 0, []),
   (14, 3, .if_icmp .ge 55, 69, 0, 0, [])],
  [(17, 1, .aload_n 0, 0, 0, 0, []),
   (18, 3, .getfield 19, 0, 1, 0, []),
   (21, 2, .iload 5, 0, 0, 0, []),
   (23, 1, .aaload, 0, 0, 0, []),
   (24, 3, .invokevirtual 118, 53, 500, 0, []),
   (27, 3, .ifCond .eq 19, 46, 0, 0, []),
   (30, 1, .aload_n 0, 0, 0, 0, []),
   (31, 1, .aload_n 1, 0, 0, 0, [])],
  [(32, 1, .aload_n 0, 0, 0, 0, []),
   (33, 3, .getfield 19, 0, 1, 0, []),
   (36, 2, .iload 5, 0, 0, 0, []),
   (38, 1, .aaload, 0, 0, 0, []),
   (39, 1, .iload_n 2, 0, 0, 0, []),
   (40, 3, .invokevirtual 122, 8, 3, 0, []),
   (43, 3, .goto 4, 47, 0, 0, []),
   (46, 1, .iconst 0, 0, 0, 0, []),
   (47, 2, .istore 6, 0, 0, 0, [])],
  [(49, 2, .iload 6, 0, 0, 0, []),
   (51, 2, .iload 4, 0, 0, 0, []),
   (53, 3, .if_icmp .le 10, 63, 0, 0, []),
   (56, 2, .iload 6, 0, 0, 0, []),
   (58, 2, .istore 4, 0, 0, 0, []),
   (60, 2, .iload 5, 0, 0, 0, []),
   (62, 1, .istore_n 3, 0, 0, 0, []),
   (63, 3, .iinc 5 1, 0, 0, 1, [])],
  [(66, 3, .goto (-58), 8, 0, 0, []),
   (69, 1, .iload_n 3, 0, 0, 0, []),
   (70, 1, .ireturn, 0, 0, 0, [])]]
def cd_10 : aCd := [
  [(0, 1, .iconst 0, 0, 0, 0, []),
   (1, 1, .istore_n 3, 0, 0, 0, []),
   (2, 1, .iconst 0, 0, 0, 0, []),
   (3, 2, .istore 4, 0, 0, 0, []),
   (5, 2, .iload 4, 0, 0, 0, []),
   (7, 1, .aload_n 0, 0, 0, 0, []),
   (8, 3, .getfield 49, 0, 6, 0, []),
   (11, 3, .if_icmp .ge 32, 43, 0, 0, []),
   (14, 1, .aload_n 0, 0, 0, 0, []),
   (15, 1, .aload_n 0, 0, 0, 0, [])],
  [(16, 3, .getfield 11, 0, 0, 0, []),
   (19, 2, .iload 4, 0, 0, 0, []),
   (21, 1, .aaload, 0, 0, 0, []),
   (22, 1, .iload_n 2, 0, 0, 0, []),
   (23, 3, .invokevirtual 126, 9, 2, 0, []),
   (26, 1, .iload_n 1, 0, 0, 0, []),
   (27, 3, .if_icmp .ne 10, 37, 0, 0, []),
   (30, 1, .iload_n 3, 0, 0, 0, []),
   (31, 1, .iconst 1, 0, 0, 1, [])],
  [(32, 2, .iload 4, 0, 0, 0, []),
   (34, 1, .ishl, 0, 0, 0, []),
   (35, 1, .ior, 0, 0, 0, []),
   (36, 1, .istore_n 3, 0, 0, 0, []),
   (37, 3, .iinc 4 1, 0, 0, 1, []),
   (40, 3, .goto (-35), 5, 0, 0, []),
   (43, 1, .iload_n 3, 0, 0, 0, []),
   (44, 1, .ireturn, 0, 0, 0, [])]]
def cd_11 : aCd := [
  [(0, 1, .aload_n 0, 0, 0, 0, []),
   (1, 1, .iload_n 1, 0, 0, 0, []),
   (2, 3, .invokevirtual 130, 2, 1, 0, []),
   (5, 1, .astore_n 2, 0, 0, 0, []),
   (6, 1, .aload_n 2, 0, 0, 0, []),
   (7, 3, .ifnonnull 7, 14, 0, 0, []),
   (10, 1, .aconst_null, 0, 0, 0, []),
   (11, 3, .goto 13, 24, 0, 0, []),
   (14, 1, .aload_n 0, 0, 0, 0, []),
   (15, 1, .aload_n 0, 0, 0, 0, [])],
  [(16, 1, .aload_n 2, 0, 0, 0, []),
   (17, 1, .iconst 0, 0, 0, 0, []),
   (18, 3, .invokevirtual 126, 9, 2, 0, []),
   (21, 3, .invokevirtual 134, 3, 1, 0, []),
   (24, 1, .astore_n 3, 0, 0, 0, []),
   (25, 1, .aload_n 3, 0, 0, 0, []),
   (26, 3, .ifnull 11, 37, 0, 0, []),
   (29, 1, .aload_n 2, 0, 0, 0, []),
   (30, 1, .aload_n 3, 0, 0, 0, []),
   (31, 3, .invokevirtual 97, 33, 201, 0, [])],
  [(34, 3, .ifCond .eq 7, 41, 0, 0, []),
   (37, 1, .iconst (-1), 0, 0, -1, []),
   (38, 3, .goto 7, 45, 0, 0, []),
   (41, 1, .aload_n 3, 0, 0, 0, []),
   (42, 3, .getfield 138, 5, 0, 0, []),
   (45, 1, .ireturn, 0, 0, 0, [])]]
def cd_12 : aCd := [
  [(0, 1, .iconst 0, 0, 0, 0, []),
   (1, 1, .istore_n 1, 0, 0, 0, []),
   (2, 1, .iload_n 1, 0, 0, 0, []),
   (3, 1, .aload_n 0, 0, 0, 0, []),
   (4, 3, .getfield 49, 0, 6, 0, []),
   (7, 3, .if_icmp .ge 46, 53, 0, 0, []),
   (10, 1, .aload_n 0, 0, 0, 0, []),
   (11, 1, .aload_n 0, 0, 0, 0, []),
   (12, 3, .getfield 11, 0, 0, 0, []),
   (15, 1, .iload_n 1, 0, 0, 0, [])],
  [(16, 1, .aaload, 0, 0, 0, []),
   (17, 1, .iconst 0, 0, 0, 0, []),
   (18, 3, .invokevirtual 126, 9, 2, 0, []),
   (21, 1, .istore_n 2, 0, 0, 0, []),
   (22, 1, .iload_n 2, 0, 0, 0, []),
   (23, 1, .iconst (-1), 0, 0, -1, []),
   (24, 3, .if_icmp .eq 23, 47, 0, 0, []),
   (27, 1, .aload_n 0, 0, 0, 0, []),
   (28, 3, .getfield 11, 0, 0, 0, []),
   (31, 1, .iload_n 1, 0, 0, 0, [])],
  [(32, 1, .aaload, 0, 0, 0, []),
   (33, 1, .aload_n 0, 0, 0, 0, []),
   (34, 3, .getfield 19, 0, 1, 0, []),
   (37, 1, .iload_n 2, 0, 0, 0, []),
   (38, 1, .aaload, 0, 0, 0, []),
   (39, 3, .invokevirtual 97, 33, 201, 0, []),
   (42, 3, .ifCond .ne 5, 47, 0, 0, []),
   (45, 1, .iload_n 2, 0, 0, 0, []),
   (46, 1, .ireturn, 0, 0, 0, []),
   (47, 3, .iinc 1 1, 0, 0, 1, [])],
  [(50, 3, .goto (-48), 2, 0, 0, []),
   (53, 1, .iconst (-1), 0, 0, -1, []),
   (54, 1, .ireturn, 0, 0, 0, [])]]
def cd_13 : aCd := [
  [(0, 1, .aload_n 0, 0, 0, 0, []),
   (1, 1, .aload_n 1, 0, 0, 0, []),
   (2, 1, .iload_n 2, 0, 0, 0, []),
   (3, 3, .invokevirtual 126, 9, 2, 0, []),
   (6, 1, .istore_n 3, 0, 0, 0, []),
   (7, 1, .aload_n 0, 0, 0, 0, []),
   (8, 1, .iload_n 3, 0, 0, 0, []),
   (9, 3, .invokevirtual 134, 3, 1, 0, []),
   (12, 2, .astore 4, 0, 0, 0, []),
   (14, 2, .aload 4, 0, 0, 0, [])],
  [(16, 3, .ifnonnull 5, 21, 0, 0, []),
   (19, 1, .iconst (-1), 0, 0, -1, []),
   (20, 1, .ireturn, 0, 0, 0, []),
   (21, 2, .aload 4, 0, 0, 0, []),
   (23, 1, .aload_n 1, 0, 0, 0, []),
   (24, 3, .getfield 141, 2, 0, 0, []),
   (27, 3, .invokevirtual 144, 54, 501, 0, []),
   (30, 1, .aload_n 1, 0, 0, 0, []),
   (31, 3, .getfield 147, 2, 1, 0, [])],
  [(34, 2, .bipush 6, 0, 0, 6, []),
   (36, 3, .if_icmp .ne 22, 58, 0, 0, []),
   (39, 1, .aload_n 0, 0, 0, 0, []),
   (40, 3, .sipush 9999, 0, 0, 9999, []),
   (43, 1, .aload_n 0, 0, 0, 0, []),
   (44, 3, .getfield 70, 0, 13, 0, []),
   (47, 1, .iconst 1, 0, 0, 1, [])],
  [(48, 1, .iadd, 0, 0, 0, []),
   (49, 3, .invokestatic 150, 901, 0, 0, []),
   (52, 3, .putfield 70, 0, 13, 0, []),
   (55, 3, .goto 10, 65, 0, 0, []),
   (58, 1, .aload_n 0, 0, 0, 0, []),
   (59, 1, .aload_n 1, 0, 0, 0, []),
   (60, 2, .aload 4, 0, 0, 0, []),
   (62, 3, .invokevirtual 156, 14, 2, 0, [])],
  [(65, 1, .iload_n 3, 0, 0, 0, []),
   (66, 1, .ireturn, 0, 0, 0, [])]]
def cd_14 : aCd := [
  [(0, 1, .aload_n 1, 0, 0, 0, []),
   (1, 1, .iconst 0, 0, 0, 0, []),
   (2, 3, .putfield 160, 2, 3, 0, []),
   (5, 1, .aload_n 1, 0, 0, 0, []),
   (6, 1, .aload_n 2, 0, 0, 0, []),
   (7, 3, .invokevirtual 97, 33, 201, 0, []),
   (10, 3, .ifCond .eq 20, 30, 0, 0, []),
   (13, 1, .aload_n 0, 0, 0, 0, []),
   (14, 3, .sipush 9999, 0, 0, 9999, [])],
  [(17, 1, .aload_n 0, 0, 0, 0, []),
   (18, 3, .getfield 67, 0, 12, 0, []),
   (21, 1, .iconst 1, 0, 0, 1, []),
   (22, 1, .iadd, 0, 0, 0, []),
   (23, 3, .invokestatic 150, 901, 0, 0, []),
   (26, 3, .putfield 67, 0, 12, 0, []),
   (29, 1, .return_, 0, 0, 0, []),
   (30, 1, .aload_n 0, 0, 0, 0, []),
   (31, 3, .sipush 9999, 0, 0, 9999, [])],
  [(34, 1, .aload_n 0, 0, 0, 0, []),
   (35, 3, .getfield 64, 0, 11, 0, []),
   (38, 1, .iconst 1, 0, 0, 1, []),
   (39, 1, .iadd, 0, 0, 0, []),
   (40, 3, .invokestatic 150, 901, 0, 0, []),
   (43, 3, .putfield 64, 0, 11, 0, []),
   (46, 1, .aload_n 0, 0, 0, 0, []),
   (47, 1, .aload_n 2, 0, 0, 0, [])],
  [(48, 3, .getfield 138, 5, 0, 0, []),
   (51, 3, .invokevirtual 130, 2, 1, 0, []),
   (54, 1, .astore_n 3, 0, 0, 0, []),
   (55, 1, .aload_n 3, 0, 0, 0, []),
   (56, 3, .ifnull 7, 63, 0, 0, []),
   (59, 1, .aload_n 3, 0, 0, 0, []),
   (60, 3, .invokevirtual 163, 36, 200, 0, []),
   (63, 1, .return_, 0, 0, 0, [])]]
def cd_15 : aCd := [
  [(0, 1, .iconst 0, 0, 0, 0, []),
   (1, 1, .istore_n 2, 0, 0, 0, []),
   (2, 1, .iconst 0, 0, 0, 0, []),
   (3, 1, .istore_n 3, 0, 0, 0, []),
   (4, 1, .iload_n 3, 0, 0, 0, []),
   (5, 1, .aload_n 0, 0, 0, 0, []),
   (6, 3, .getfield 52, 0, 7, 0, []),
   (9, 3, .if_icmp .ge 47, 56, 0, 0, []),
   (12, 1, .aload_n 0, 0, 0, 0, []),
   (13, 3, .getfield 19, 0, 1, 0, [])],
  [(16, 1, .iload_n 3, 0, 0, 0, []),
   (17, 1, .aaload, 0, 0, 0, []),
   (18, 3, .getfield 93, 5, 5, 0, []),
   (21, 3, .ifCond .eq 29, 50, 0, 0, []),
   (24, 1, .aload_n 0, 0, 0, 0, []),
   (25, 3, .getfield 19, 0, 1, 0, []),
   (28, 1, .iload_n 3, 0, 0, 0, []),
   (29, 1, .aaload, 0, 0, 0, []),
   (30, 3, .getfield 107, 5, 3, 0, [])],
  [(33, 1, .iload_n 1, 0, 0, 0, []),
   (34, 3, .if_icmp .lt 16, 50, 0, 0, []),
   (37, 1, .aload_n 0, 0, 0, 0, []),
   (38, 3, .getfield 19, 0, 1, 0, []),
   (41, 1, .iload_n 3, 0, 0, 0, []),
   (42, 1, .aaload, 0, 0, 0, []),
   (43, 1, .iconst (-1), 0, 0, -1, []),
   (44, 3, .invokevirtual 144, 54, 501, 0, []),
   (47, 3, .iinc 2 1, 0, 0, 1, [])],
  [(50, 3, .iinc 3 1, 0, 0, 1, []),
   (53, 3, .goto (-49), 4, 0, 0, []),
   (56, 1, .iload_n 2, 0, 0, 0, []),
   (57, 1, .ireturn, 0, 0, 0, [])]]
def cd_16 : aCd := [
  [(0, 1, .aload_n 0, 0, 0, 0, []),
   (1, 1, .aload_n 0, 0, 0, 0, []),
   (2, 3, .getfield 43, 0, 14, 0, []),
   (5, 2, .ldc 166, 0, 0, 1103515245, []),
   (7, 1, .imul, 0, 0, 0, []),
   (8, 3, .sipush 12345, 0, 0, 12345, []),
   (11, 1, .iadd, 0, 0, 0, []),
   (12, 3, .putfield 43, 0, 14, 0, []),
   (15, 1, .iload_n 1, 0, 0, 0, [])],
  [(16, 3, .ifCond .le 15, 31, 0, 0, []),
   (19, 1, .aload_n 0, 0, 0, 0, []),
   (20, 3, .getfield 43, 0, 14, 0, []),
   (23, 2, .bipush 8, 0, 0, 8, []),
   (25, 1, .iushr, 0, 0, 0, []),
   (26, 1, .iload_n 1, 0, 0, 0, []),
   (27, 1, .irem, 0, 0, 0, []),
   (28, 3, .goto 4, 32, 0, 0, []),
   (31, 1, .iconst 0, 0, 0, 0, [])],
  [(32, 1, .ireturn, 0, 0, 0, [])]]
def cd_17 : aCd := [
  [(0, 1, .iconst (-1), 0, 0, -1, []),
   (1, 1, .istore_n 1, 0, 0, 0, []),
   (2, 1, .aload_n 0, 0, 0, 0, []),
   (3, 3, .getfield 49, 0, 6, 0, []),
   (6, 3, .ifCond .le 37, 43, 0, 0, []),
   (9, 1, .aload_n 0, 0, 0, 0, []),
   (10, 1, .aload_n 0, 0, 0, 0, []),
   (11, 1, .aload_n 0, 0, 0, 0, []),
   (12, 3, .getfield 49, 0, 6, 0, []),
   (15, 3, .invokevirtual 167, 16, 1, 0, [])],
  [(18, 3, .invokevirtual 130, 2, 1, 0, []),
   (21, 1, .astore_n 2, 0, 0, 0, []),
   (22, 1, .aload_n 0, 0, 0, 0, []),
   (23, 1, .iconst 2, 0, 0, 2, []),
   (24, 3, .invokevirtual 167, 16, 1, 0, []),
   (27, 1, .istore_n 3, 0, 0, 0, []),
   (28, 1, .aload_n 2, 0, 0, 0, []),
   (29, 3, .ifnonnull 7, 36, 0, 0, [])],
  [(32, 1, .iconst (-1), 0, 0, -1, []),
   (33, 3, .goto 9, 42, 0, 0, []),
   (36, 1, .aload_n 0, 0, 0, 0, []),
   (37, 1, .aload_n 2, 0, 0, 0, []),
   (38, 1, .iload_n 3, 0, 0, 0, []),
   (39, 3, .invokevirtual 171, 13, 2, 0, []),
   (42, 1, .istore_n 1, 0, 0, 0, []),
   (43, 1, .aload_n 0, 0, 0, 0, []),
   (44, 3, .invokevirtual 174, 18, 0, 0, []),
   (47, 1, .iload_n 1, 0, 0, 0, [])],
  [(48, 1, .ireturn, 0, 0, 0, [])]]
def cd_18 : aCd := [
  [(0, 1, .aload_n 0, 0, 0, 0, []),
   (1, 1, .dup, 0, 0, 0, []),
   (2, 3, .getfield 61, 0, 10, 0, []),
   (5, 1, .iconst 1, 0, 0, 1, []),
   (6, 1, .iadd, 0, 0, 0, []),
   (7, 3, .putfield 61, 0, 10, 0, []),
   (10, 1, .iconst 0, 0, 0, 0, []),
   (11, 1, .istore_n 1, 0, 0, 0, []),
   (12, 1, .iload_n 1, 0, 0, 0, []),
   (13, 1, .aload_n 0, 0, 0, 0, []),
   (14, 3, .getfield 49, 0, 6, 0, [])],
  [(17, 3, .if_icmp .ge 18, 35, 0, 0, []),
   (20, 1, .aload_n 0, 0, 0, 0, []),
   (21, 3, .getfield 11, 0, 0, 0, []),
   (24, 1, .iload_n 1, 0, 0, 0, []),
   (25, 1, .aaload, 0, 0, 0, []),
   (26, 3, .invokevirtual 177, 35, 200, 0, []),
   (29, 3, .iinc 1 1, 0, 0, 1, [])],
  [(32, 3, .goto (-20), 12, 0, 0, []),
   (35, 1, .aload_n 0, 0, 0, 0, []),
   (36, 3, .getfield 61, 0, 10, 0, []),
   (39, 2, .bipush 8, 0, 0, 8, []),
   (41, 1, .irem, 0, 0, 0, []),
   (42, 3, .ifCond .eq 4, 46, 0, 0, []),
   (45, 1, .return_, 0, 0, 0, []),
   (46, 1, .iconst 0, 0, 0, 0, []),
   (47, 1, .istore_n 1, 0, 0, 0, [])],
  [(48, 1, .iload_n 1, 0, 0, 0, []),
   (49, 1, .aload_n 0, 0, 0, 0, []),
   (50, 3, .getfield 52, 0, 7, 0, []),
   (53, 3, .if_icmp .ge 30, 83, 0, 0, []),
   (56, 1, .aload_n 0, 0, 0, 0, []),
   (57, 3, .getfield 19, 0, 1, 0, []),
   (60, 1, .iload_n 1, 0, 0, 0, []),
   (61, 1, .aaload, 0, 0, 0, []),
   (62, 3, .getfield 93, 5, 5, 0, [])],
  [(65, 3, .ifCond .eq 12, 77, 0, 0, []),
   (68, 1, .aload_n 0, 0, 0, 0, []),
   (69, 3, .getfield 19, 0, 1, 0, []),
   (72, 1, .iload_n 1, 0, 0, 0, []),
   (73, 1, .aaload, 0, 0, 0, []),
   (74, 3, .invokevirtual 180, 56, 500, 0, []),
   (77, 3, .iinc 1 1, 0, 0, 1, [])],
  [(80, 3, .goto (-32), 48, 0, 0, []),
   (83, 1, .return_, 0, 0, 0, [])]]
def cd_19 : aCd := [
  [(0, 1, .aload_n 0, 0, 0, 0, []),
   (1, 3, .invokespecial 3, 904, 0, 0, []),
   (4, 1, .aload_n 0, 0, 0, 0, []),
   (5, 2, .bipush 60, 0, 0, 60, []),
   (7, 2, .newarray .int, 0, 0, 0, []),
   (9, 3, .putfield 9, 1, 1, 0, []),
   (12, 1, .aload_n 0, 0, 0, 0, []),
   (13, 2, .bipush 60, 0, 0, 60, []),
   (15, 2, .newarray .int, 0, 0, 0, [])],
  [(17, 3, .putfield 15, 1, 2, 0, []),
   (20, 1, .aload_n 0, 0, 0, 0, []),
   (21, 2, .bipush 60, 0, 0, 60, []),
   (23, 2, .newarray .int, 0, 0, 0, []),
   (25, 3, .putfield 18, 1, 3, 0, []),
   (28, 1, .aload_n 0, 0, 0, 0, []),
   (29, 1, .iload_n 1, 0, 0, 0, []),
   (30, 3, .putfield 21, 1, 0, 0, [])],
  [(33, 1, .return_, 0, 0, 0, [])]]
def cd_20 : aCd := [
  [(0, 1, .aload_n 0, 0, 0, 0, []),
   (1, 1, .iconst 0, 0, 0, 0, []),
   (2, 3, .putfield 25, 1, 4, 0, []),
   (5, 1, .return_, 0, 0, 0, [])]]
def cd_21 : aCd := [
  [(0, 1, .aload_n 0, 0, 0, 0, []),
   (1, 3, .getfield 25, 1, 4, 0, []),
   (4, 3, .ifCond .le 7, 11, 0, 0, []),
   (7, 1, .iconst 1, 0, 0, 1, []),
   (8, 3, .goto 4, 12, 0, 0, []),
   (11, 1, .iconst 0, 0, 0, 0, []),
   (12, 1, .ireturn, 0, 0, 0, [])]]
def cd_22 : aCd := [
  [(0, 1, .aload_n 0, 0, 0, 0, []),
   (1, 1, .aload_n 1, 0, 0, 0, []),
   (2, 3, .getfield 25, 1, 4, 0, []),
   (5, 3, .putfield 25, 1, 4, 0, []),
   (8, 1, .aload_n 1, 0, 0, 0, []),
   (9, 3, .getfield 9, 1, 1, 0, []),
   (12, 1, .iconst 0, 0, 0, 0, []),
   (13, 1, .aload_n 0, 0, 0, 0, []),
   (14, 3, .getfield 9, 1, 1, 0, [])],
  [(17, 1, .iconst 0, 0, 0, 0, []),
   (18, 2, .bipush 60, 0, 0, 60, []),
   (20, 3, .invokestatic 28, 902, 0, 0, []),
   (23, 1, .aload_n 1, 0, 0, 0, []),
   (24, 3, .getfield 15, 1, 2, 0, []),
   (27, 1, .iconst 0, 0, 0, 0, []),
   (28, 1, .aload_n 0, 0, 0, 0, []),
   (29, 3, .getfield 15, 1, 2, 0, [])],
  [(32, 1, .iconst 0, 0, 0, 0, []),
   (33, 2, .bipush 60, 0, 0, 60, []),
   (35, 3, .invokestatic 28, 902, 0, 0, []),
   (38, 1, .return_, 0, 0, 0, [])]]
def cd_23 : aCd := [
  [(0, 1, .aload_n 0, 0, 0, 0, []),
   (1, 3, .getfield 25, 1, 4, 0, []),
   (4, 2, .bipush 60, 0, 0, 60, []),
   (6, 3, .if_icmp .ge 33, 39, 0, 0, []),
   (9, 1, .aload_n 0, 0, 0, 0, []),
   (10, 3, .getfield 9, 1, 1, 0, []),
   (13, 1, .aload_n 0, 0, 0, 0, []),
   (14, 3, .getfield 25, 1, 4, 0, [])],
  [(17, 1, .iload_n 1, 0, 0, 0, []),
   (18, 1, .iastore, 0, 0, 0, []),
   (19, 1, .aload_n 0, 0, 0, 0, []),
   (20, 3, .getfield 15, 1, 2, 0, []),
   (23, 1, .aload_n 0, 0, 0, 0, []),
   (24, 3, .getfield 25, 1, 4, 0, []),
   (27, 1, .iload_n 2, 0, 0, 0, []),
   (28, 1, .iastore, 0, 0, 0, []),
   (29, 1, .aload_n 0, 0, 0, 0, []),
   (30, 1, .dup, 0, 0, 0, []),
   (31, 3, .getfield 25, 1, 4, 0, [])],
  [(34, 1, .iconst 1, 0, 0, 1, []),
   (35, 1, .iadd, 0, 0, 0, []),
   (36, 3, .putfield 25, 1, 4, 0, []),
   (39, 1, .return_, 0, 0, 0, [])]]
def cd_24 : aCd := [
  [(0, 1, .aload_n 0, 0, 0, 0, []),
   (1, 3, .invokevirtual 34, 21, 100, 0, []),
   (4, 3, .ifCond .eq 15, 19, 0, 0, []),
   (7, 1, .aload_n 0, 0, 0, 0, []),
   (8, 1, .iload_n 1, 0, 0, 0, []),
   (9, 1, .iload_n 2, 0, 0, 0, []),
   (10, 1, .iload_n 3, 0, 0, 0, []),
   (11, 3, .invokevirtual 38, 25, 103, 0, []),
   (14, 2, .istore 4, 0, 0, 0, [])],
  [(16, 3, .goto 37, 53, 0, 0, []),
   (19, 1, .aload_n 0, 0, 0, 0, []),
   (20, 3, .getfield 21, 1, 0, 0, []),
   (23, 3, .ifCond .ne 19, 42, 0, 0, []),
   (26, 2, .bipush 20, 0, 0, 20, []),
   (28, 2, .bipush 10, 0, 0, 10, []),
   (30, 1, .iload_n 2, 0, 0, 0, []),
   (31, 1, .imul, 0, 0, 0, [])],
  [(32, 1, .iadd, 0, 0, 0, []),
   (33, 1, .iconst 3, 0, 0, 3, []),
   (34, 1, .iload_n 3, 0, 0, 0, []),
   (35, 1, .imul, 0, 0, 0, []),
   (36, 1, .isub, 0, 0, 0, []),
   (37, 2, .istore 4, 0, 0, 0, []),
   (39, 3, .goto 14, 53, 0, 0, []),
   (42, 2, .bipush 10, 0, 0, 10, []),
   (44, 1, .iload_n 1, 0, 0, 0, []),
   (45, 1, .imul, 0, 0, 0, []),
   (46, 2, .bipush 20, 0, 0, 20, [])],
  [(48, 1, .iload_n 2, 0, 0, 0, []),
   (49, 1, .imul, 0, 0, 0, []),
   (50, 1, .iadd, 0, 0, 0, []),
   (51, 2, .istore 4, 0, 0, 0, []),
   (53, 1, .iconst 0, 0, 0, 0, []),
   (54, 2, .bipush 99, 0, 0, 99, []),
   (56, 2, .iload 4, 0, 0, 0, []),
   (58, 3, .invokestatic 42, 901, 0, 0, []),
   (61, 3, .invokestatic 48, 900, 0, 0, [])],
  [(64, 1, .ireturn, 0, 0, 0, [])]]
def cd_25 : aCd := [
  [(0, 1, .iconst (-1), 0, 0, -1, []),
   (1, 2, .istore 4, 0, 0, 0, []),
   (3, 1, .iconst 0, 0, 0, 0, []),
   (4, 2, .istore 5, 0, 0, 0, []),
   (6, 2, .iload 5, 0, 0, 0, []),
   (8, 1, .aload_n 0, 0, 0, 0, []),
   (9, 3, .getfield 25, 1, 4, 0, []),
   (12, 3, .if_icmp .ge 180, 192, 0, 0, []),
   (15, 1, .aload_n 0, 0, 0, 0, [])],
  [(16, 3, .getfield 9, 1, 1, 0, []),
   (19, 2, .iload 5, 0, 0, 0, []),
   (21, 1, .iaload, 0, 0, 0, []),
   (22, 2, .istore 6, 0, 0, 0, []),
   (24, 2, .iload 6, 0, 0, 0, []),
   (26, 2, .bipush 110, 0, 0, 110, []),
   (28, 3, .if_icmp .eq 10, 38, 0, 0, []),
   (31, 2, .iload 6, 0, 0, 0, [])],
  [(33, 2, .bipush 118, 0, 0, 118, []),
   (35, 3, .if_icmp .ne 56, 91, 0, 0, []),
   (38, 3, .iinc 4 1, 0, 0, 1, []),
   (41, 2, .iload 4, 0, 0, 0, []),
   (43, 1, .aload_n 0, 0, 0, 0, []),
   (44, 3, .getfield 18, 1, 3, 0, []),
   (47, 1, .arraylength, 0, 0, 0, [])],
  [(48, 3, .if_icmp .ge 138, 186, 0, 0, []),
   (51, 1, .aload_n 0, 0, 0, 0, []),
   (52, 3, .getfield 18, 1, 3, 0, []),
   (55, 2, .iload 4, 0, 0, 0, []),
   (57, 2, .iload 6, 0, 0, 0, []),
   (59, 2, .bipush 110, 0, 0, 110, []),
   (61, 3, .if_icmp .ne 13, 74, 0, 0, [])],
  [(64, 1, .aload_n 0, 0, 0, 0, []),
   (65, 3, .getfield 15, 1, 2, 0, []),
   (68, 2, .iload 5, 0, 0, 0, []),
   (70, 1, .iaload, 0, 0, 0, []),
   (71, 3, .goto 16, 87, 0, 0, []),
   (74, 1, .aload_n 0, 0, 0, 0, []),
   (75, 3, .getfield 15, 1, 2, 0, []),
   (78, 2, .iload 5, 0, 0, 0, [])],
  [(80, 1, .iaload, 0, 0, 0, []),
   (81, 1, .iload_n 1, 0, 0, 0, []),
   (82, 1, .iload_n 2, 0, 0, 0, []),
   (83, 1, .iload_n 3, 0, 0, 0, []),
   (84, 3, .invokestatic 51, 26, 4, 0, []),
   (87, 1, .iastore, 0, 0, 0, []),
   (88, 3, .goto 98, 186, 0, 0, []),
   (91, 2, .iload 6, 0, 0, 0, []),
   (93, 2, .bipush 33, 0, 0, 33, []),
   (95, 3, .if_icmp .ne 44, 139, 0, 0, [])],
  [(98, 2, .iload 4, 0, 0, 0, []),
   (100, 1, .iconst 0, 0, 0, 0, []),
   (101, 1, .aload_n 0, 0, 0, 0, []),
   (102, 3, .getfield 18, 1, 3, 0, []),
   (105, 1, .arraylength, 0, 0, 0, []),
   (106, 1, .iconst 1, 0, 0, 1, []),
   (107, 1, .isub, 0, 0, 0, []),
   (108, 3, .invokestatic 55, 106, 3, 0, []),
   (111, 3, .ifCond .eq 75, 186, 0, 0, [])],
  [(114, 1, .aload_n 0, 0, 0, 0, []),
   (115, 3, .getfield 18, 1, 3, 0, []),
   (118, 2, .iload 4, 0, 0, 0, []),
   (120, 1, .aload_n 0, 0, 0, 0, []),
   (121, 3, .getfield 18, 1, 3, 0, []),
   (124, 2, .iload 4, 0, 0, 0, []),
   (126, 1, .iaload, 0, 0, 0, []),
   (127, 3, .ifCond .ne 7, 134, 0, 0, [])],
  [(130, 1, .iconst 1, 0, 0, 1, []),
   (131, 3, .goto 4, 135, 0, 0, []),
   (134, 1, .iconst 0, 0, 0, 0, []),
   (135, 1, .iastore, 0, 0, 0, []),
   (136, 3, .goto 50, 186, 0, 0, []),
   (139, 3, .iinc 4 (-1), 0, 0, -1, []),
   (142, 2, .iload 4, 0, 0, 0, [])],
  [(144, 1, .iconst 0, 0, 0, 0, []),
   (145, 1, .aload_n 0, 0, 0, 0, []),
   (146, 3, .getfield 18, 1, 3, 0, []),
   (149, 1, .arraylength, 0, 0, 0, []),
   (150, 1, .iconst 2, 0, 0, 2, []),
   (151, 1, .isub, 0, 0, 0, []),
   (152, 3, .invokestatic 55, 106, 3, 0, []),
   (155, 3, .ifCond .eq 31, 186, 0, 0, []),
   (158, 1, .aload_n 0, 0, 0, 0, []),
   (159, 3, .getfield 18, 1, 3, 0, [])],
  [(162, 2, .iload 4, 0, 0, 0, []),
   (164, 2, .iload 6, 0, 0, 0, []),
   (166, 1, .aload_n 0, 0, 0, 0, []),
   (167, 3, .getfield 18, 1, 3, 0, []),
   (170, 2, .iload 4, 0, 0, 0, []),
   (172, 1, .iaload, 0, 0, 0, []),
   (173, 1, .aload_n 0, 0, 0, 0, []),
   (174, 3, .getfield 18, 1, 3, 0, [])],
  [(177, 2, .iload 4, 0, 0, 0, []),
   (179, 1, .iconst 1, 0, 0, 1, []),
   (180, 1, .iadd, 0, 0, 0, []),
   (181, 1, .iaload, 0, 0, 0, []),
   (182, 3, .invokestatic 59, 27, 3, 0, []),
   (185, 1, .iastore, 0, 0, 0, []),
   (186, 3, .iinc 5 1, 0, 0, 1, []),
   (189, 3, .goto (-183), 6, 0, 0, [])],
  [(192, 1, .aload_n 0, 0, 0, 0, []),
   (193, 3, .getfield 18, 1, 3, 0, []),
   (196, 1, .iconst 0, 0, 0, 0, []),
   (197, 1, .iaload, 0, 0, 0, []),
   (198, 1, .ireturn, 0, 0, 0, [])]]
def cd_26 : aCd := [
  [(0, 1, .iload_n 0, 0, 0, 0, []),
   (1, 3, .ifCond .ne 7, 8, 0, 0, []),
   (4, 1, .iload_n 1, 0, 0, 0, []),
   (5, 3, .goto 13, 18, 0, 0, []),
   (8, 1, .iload_n 0, 0, 0, 0, []),
   (9, 1, .iconst 1, 0, 0, 1, []),
   (10, 3, .if_icmp .ne 7, 17, 0, 0, []),
   (13, 1, .iload_n 2, 0, 0, 0, []),
   (14, 3, .goto 4, 18, 0, 0, [])],
  [(17, 1, .iload_n 3, 0, 0, 0, []),
   (18, 1, .ireturn, 0, 0, 0, [])]]
def cd_27 : aCd := [
  [(0, 1, .iload_n 0, 0, 0, 0, []),
   (1, 83, .lookupswitch 168 #[(38, 97), (42, 152), (43, 144), (45, 148), (47, 156), (60, 111), (61, 122), (62, 133), (124, 83)], 169, 0, 0, [(38, 98), (42, 153), (43, 145), (45, 149), (47, 157), (60, 112), (61, 123), (62, 134), (124, 84)])],
  [],
  [],
  [],
  [],
  [(84, 1, .iload_n 1, 0, 0, 0, []),
   (85, 3, .ifCond .ne 7, 92, 0, 0, []),
   (88, 1, .iload_n 2, 0, 0, 0, []),
   (89, 3, .ifCond .eq 7, 96, 0, 0, []),
   (92, 1, .iconst 1, 0, 0, 1, []),
   (93, 3, .goto 4, 97, 0, 0, [])],
  [(96, 1, .iconst 0, 0, 0, 0, []),
   (97, 1, .ireturn, 0, 0, 0, []),
   (98, 1, .iload_n 1, 0, 0, 0, []),
   (99, 3, .ifCond .eq 11, 110, 0, 0, []),
   (102, 1, .iload_n 2, 0, 0, 0, []),
   (103, 3, .ifCond .eq 7, 110, 0, 0, []),
   (106, 1, .iconst 1, 0, 0, 1, []),
   (107, 3, .goto 4, 111, 0, 0, []),
   (110, 1, .iconst 0, 0, 0, 0, []),
   (111, 1, .ireturn, 0, 0, 0, [])],
  [(112, 1, .iload_n 1, 0, 0, 0, []),
   (113, 1, .iload_n 2, 0, 0, 0, []),
   (114, 3, .if_icmp .ge 7, 121, 0, 0, []),
   (117, 1, .iconst 1, 0, 0, 1, []),
   (118, 3, .goto 4, 122, 0, 0, []),
   (121, 1, .iconst 0, 0, 0, 0, []),
   (122, 1, .ireturn, 0, 0, 0, []),
   (123, 1, .iload_n 1, 0, 0, 0, []),
   (124, 1, .iload_n 2, 0, 0, 0, []),
   (125, 3, .if_icmp .ne 7, 132, 0, 0, [])],
  [(128, 1, .iconst 1, 0, 0, 1, []),
   (129, 3, .goto 4, 133, 0, 0, []),
   (132, 1, .iconst 0, 0, 0, 0, []),
   (133, 1, .ireturn, 0, 0, 0, []),
   (134, 1, .iload_n 1, 0, 0, 0, []),
   (135, 1, .iload_n 2, 0, 0, 0, []),
   (136, 3, .if_icmp .le 7, 143, 0, 0, []),
   (139, 1, .iconst 1, 0, 0, 1, []),
   (140, 3, .goto 4, 144, 0, 0, []),
   (143, 1, .iconst 0, 0, 0, 0, [])],
  [(144, 1, .ireturn, 0, 0, 0, []),
   (145, 1, .iload_n 1, 0, 0, 0, []),
   (146, 1, .iload_n 2, 0, 0, 0, []),
   (147, 1, .iadd, 0, 0, 0, []),
   (148, 1, .ireturn, 0, 0, 0, []),
   (149, 1, .iload_n 1, 0, 0, 0, []),
   (150, 1, .iload_n 2, 0, 0, 0, []),
   (151, 1, .isub, 0, 0, 0, []),
   (152, 1, .ireturn, 0, 0, 0, []),
   (153, 1, .iload_n 1, 0, 0, 0, []),
   (154, 1, .iload_n 2, 0, 0, 0, []),
   (155, 1, .imul, 0, 0, 0, []),
   (156, 1, .ireturn, 0, 0, 0, []),
   (157, 1, .iload_n 2, 0, 0, 0, []),
   (158, 3, .ifCond .ne 7, 165, 0, 0, [])],
  [(161, 1, .iconst 0, 0, 0, 0, []),
   (162, 3, .goto 6, 168, 0, 0, []),
   (165, 1, .iload_n 1, 0, 0, 0, []),
   (166, 1, .iload_n 2, 0, 0, 0, []),
   (167, 1, .idiv, 0, 0, 0, []),
   (168, 1, .ireturn, 0, 0, 0, []),
   (169, 1, .iload_n 2, 0, 0, 0, []),
   (170, 3, .ifCond .ne 7, 177, 0, 0, []),
   (173, 1, .iconst 0, 0, 0, 0, []),
   (174, 3, .goto 6, 180, 0, 0, [])],
  [(177, 1, .iload_n 1, 0, 0, 0, []),
   (178, 1, .iload_n 2, 0, 0, 0, []),
   (179, 1, .irem, 0, 0, 0, []),
   (180, 1, .ireturn, 0, 0, 0, [])]]
def cd_28 : aCd := [
  [(0, 1, .aload_n 0, 0, 0, 0, []),
   (1, 3, .invokespecial 3, 904, 0, 0, []),
   (4, 1, .aload_n 0, 0, 0, 0, []),
   (5, 1, .iload_n 1, 0, 0, 0, []),
   (6, 3, .putfield 9, 2, 0, 0, []),
   (9, 1, .return_, 0, 0, 0, [])]]
def cd_29 : aCd := [
  [(0, 1, .aload_n 0, 0, 0, 0, []),
   (1, 1, .iload_n 1, 0, 0, 0, []),
   (2, 3, .invokevirtual 15, 30, 201, 0, []),
   (5, 1, .aload_n 0, 0, 0, 0, []),
   (6, 2, .bipush 10, 0, 0, 10, []),
   (8, 3, .putfield 19, 2, 3, 0, []),
   (11, 1, .aload_n 0, 0, 0, 0, []),
   (12, 1, .iconst 0, 0, 0, 0, []),
   (13, 3, .putfield 22, 2, 4, 0, [])],
  [(16, 1, .aload_n 0, 0, 0, 0, []),
   (17, 1, .iconst (-1), 0, 0, -1, []),
   (18, 3, .putfield 25, 2, 5, 0, []),
   (21, 1, .return_, 0, 0, 0, [])]]
def cd_30 : aCd := [
  [(0, 1, .aload_n 0, 0, 0, 0, []),
   (1, 1, .iload_n 1, 0, 0, 0, []),
   (2, 2, .bipush 10, 0, 0, 10, []),
   (4, 1, .idiv, 0, 0, 0, []),
   (5, 3, .putfield 28, 2, 1, 0, []),
   (8, 1, .aload_n 0, 0, 0, 0, []),
   (9, 1, .iload_n 1, 0, 0, 0, []),
   (10, 2, .bipush 10, 0, 0, 10, []),
   (12, 1, .irem, 0, 0, 0, []),
   (13, 3, .putfield 31, 2, 2, 0, [])],
  [(16, 1, .return_, 0, 0, 0, [])]]
def cd_31 : aCd := [
  [(0, 1, .aload_n 0, 0, 0, 0, []),
   (1, 1, .aload_n 1, 0, 0, 0, []),
   (2, 3, .getfield 28, 2, 1, 0, []),
   (5, 3, .putfield 28, 2, 1, 0, []),
   (8, 1, .aload_n 0, 0, 0, 0, []),
   (9, 1, .aload_n 1, 0, 0, 0, []),
   (10, 3, .getfield 31, 2, 2, 0, []),
   (13, 3, .putfield 31, 2, 2, 0, [])],
  [(16, 1, .aload_n 0, 0, 0, 0, []),
   (17, 1, .aload_n 1, 0, 0, 0, []),
   (18, 3, .getfield 19, 2, 3, 0, []),
   (21, 3, .putfield 19, 2, 3, 0, []),
   (24, 1, .aload_n 0, 0, 0, 0, []),
   (25, 1, .aload_n 1, 0, 0, 0, []),
   (26, 3, .getfield 22, 2, 4, 0, []),
   (29, 3, .putfield 22, 2, 4, 0, [])],
  [(32, 1, .aload_n 0, 0, 0, 0, []),
   (33, 1, .aload_n 1, 0, 0, 0, []),
   (34, 3, .getfield 25, 2, 5, 0, []),
   (37, 3, .putfield 25, 2, 5, 0, []),
   (40, 1, .return_, 0, 0, 0, [])]]
def cd_32 : aCd := [
  [(0, 1, .aload_n 0, 0, 0, 0, []),
   (1, 3, .getfield 28, 2, 1, 0, []),
   (4, 1, .istore_n 2, 0, 0, 0, []),
   (5, 1, .iconst 0, 0, 0, 0, []),
   (6, 1, .istore_n 3, 0, 0, 0, []),
   (7, 1, .iload_n 3, 0, 0, 0, []),
   (8, 2, .bipush 7, 0, 0, 7, []),
   (10, 3, .if_icmp .ge 32, 42, 0, 0, []),
   (13, 1, .iload_n 2, 0, 0, 0, []),
   (14, 1, .iconst 0, 0, 0, 0, []),
   (15, 2, .bipush 6, 0, 0, 6, [])],
  [(17, 3, .invokestatic 34, 106, 3, 0, []),
   (20, 3, .ifCond .eq 22, 42, 0, 0, []),
   (23, 1, .iload_n 2, 0, 0, 0, []),
   (24, 1, .iload_n 1, 0, 0, 0, []),
   (25, 3, .if_icmp .ne 5, 30, 0, 0, []),
   (28, 1, .iconst 1, 0, 0, 1, []),
   (29, 1, .ireturn, 0, 0, 0, []),
   (30, 3, .getstatic 38, 1000, 0, 0, [])],
  [(33, 1, .iload_n 2, 0, 0, 0, []),
   (34, 1, .iaload, 0, 0, 0, []),
   (35, 1, .istore_n 2, 0, 0, 0, []),
   (36, 3, .iinc 3 1, 0, 0, 1, []),
   (39, 3, .goto (-32), 7, 0, 0, []),
   (42, 1, .iconst 0, 0, 0, 0, []),
   (43, 1, .ireturn, 0, 0, 0, [])]]
def cd_33 : aCd := [
  [(0, 1, .aload_n 1, 0, 0, 0, []),
   (1, 3, .getfield 42, 5, 0, 0, []),
   (4, 1, .aload_n 0, 0, 0, 0, []),
   (5, 3, .getfield 9, 2, 0, 0, []),
   (8, 3, .if_icmp .ne 7, 15, 0, 0, []),
   (11, 1, .iconst 1, 0, 0, 1, []),
   (12, 3, .goto 4, 16, 0, 0, []),
   (15, 1, .iconst 0, 0, 0, 0, [])],
  [(16, 1, .ireturn, 0, 0, 0, [])]]
def cd_34 : aCd := [
  [(0, 1, .aload_n 0, 0, 0, 0, []),
   (1, 1, .aload_n 1, 0, 0, 0, []),
   (2, 3, .invokevirtual 47, 33, 201, 0, []),
   (5, 1, .istore_n 3, 0, 0, 0, []),
   (6, 1, .iload_n 3, 0, 0, 0, []),
   (7, 3, .ifCond .eq 13, 20, 0, 0, []),
   (10, 2, .bipush 50, 0, 0, 50, []),
   (12, 1, .aload_n 0, 0, 0, 0, []),
   (13, 3, .getfield 19, 2, 3, 0, [])],
  [(16, 1, .iadd, 0, 0, 0, []),
   (17, 3, .goto 4, 21, 0, 0, []),
   (20, 1, .iconst 0, 0, 0, 0, []),
   (21, 2, .istore 4, 0, 0, 0, []),
   (23, 1, .iload_n 3, 0, 0, 0, []),
   (24, 3, .ifCond .eq 8, 32, 0, 0, []),
   (27, 2, .iload 4, 0, 0, 0, []),
   (29, 3, .goto 18, 47, 0, 0, [])],
  [(32, 1, .iconst 0, 0, 0, 0, []),
   (33, 1, .iload_n 2, 0, 0, 0, []),
   (34, 1, .aload_n 0, 0, 0, 0, []),
   (35, 3, .getfield 19, 2, 3, 0, []),
   (38, 1, .iconst 2, 0, 0, 2, []),
   (39, 1, .idiv, 0, 0, 0, []),
   (40, 1, .iadd, 0, 0, 0, []),
   (41, 2, .bipush 20, 0, 0, 20, []),
   (43, 1, .isub, 0, 0, 0, []),
   (44, 3, .invokestatic 51, 900, 0, 0, []),
   (47, 2, .istore 5, 0, 0, 0, [])],
  [(49, 1, .iload_n 3, 0, 0, 0, []),
   (50, 3, .ifCond .ne 10, 60, 0, 0, []),
   (53, 1, .aload_n 0, 0, 0, 0, []),
   (54, 3, .getfield 22, 2, 4, 0, []),
   (57, 3, .ifCond .ne 8, 65, 0, 0, []),
   (60, 2, .iload 4, 0, 0, 0, []),
   (62, 3, .goto 14, 76, 0, 0, [])],
  [(65, 2, .bipush 15, 0, 0, 15, []),
   (67, 1, .aload_n 0, 0, 0, 0, []),
   (68, 3, .getfield 22, 2, 4, 0, []),
   (71, 1, .imul, 0, 0, 0, []),
   (72, 1, .iload_n 2, 0, 0, 0, []),
   (73, 1, .iconst 2, 0, 0, 2, []),
   (74, 1, .idiv, 0, 0, 0, []),
   (75, 1, .iadd, 0, 0, 0, []),
   (76, 2, .istore 6, 0, 0, 0, []),
   (78, 1, .aload_n 0, 0, 0, 0, []),
   (79, 3, .getfield 28, 2, 1, 0, [])],
  [(82, 38, .tableswitch 94 1 6 #[38, 41, 44, 46, 54, 76], 176, 0, 0, [(1, 120), (2, 123), (3, 126), (4, 128), (5, 136), (6, 158)])],
  [],
  [(120, 2, .iload 5, 0, 0, 0, []),
   (122, 1, .ireturn, 0, 0, 0, []),
   (123, 2, .iload 6, 0, 0, 0, []),
   (125, 1, .ireturn, 0, 0, 0, []),
   (126, 1, .iload_n 2, 0, 0, 0, []),
   (127, 1, .ireturn, 0, 0, 0, [])],
  [(128, 2, .iload 5, 0, 0, 0, []),
   (130, 1, .aload_n 0, 0, 0, 0, []),
   (131, 3, .getfield 31, 2, 2, 0, []),
   (134, 1, .iadd, 0, 0, 0, []),
   (135, 1, .ireturn, 0, 0, 0, []),
   (136, 1, .iload_n 3, 0, 0, 0, []),
   (137, 3, .ifCond .ne 14, 151, 0, 0, []),
   (140, 1, .aload_n 1, 0, 0, 0, []),
   (141, 3, .getfield 42, 5, 0, 0, [])],
  [(144, 1, .aload_n 0, 0, 0, 0, []),
   (145, 3, .getfield 25, 2, 5, 0, []),
   (148, 3, .if_icmp .ne 8, 156, 0, 0, []),
   (151, 2, .iload 6, 0, 0, 0, []),
   (153, 3, .goto 4, 157, 0, 0, []),
   (156, 1, .iconst 0, 0, 0, 0, []),
   (157, 1, .ireturn, 0, 0, 0, []),
   (158, 1, .aload_n 1, 0, 0, 0, []),
   (159, 3, .getfield 57, 5, 3, 0, [])],
  [(162, 1, .aload_n 0, 0, 0, 0, []),
   (163, 3, .getfield 31, 2, 2, 0, []),
   (166, 3, .if_icmp .lt 8, 174, 0, 0, []),
   (169, 2, .bipush 30, 0, 0, 30, []),
   (171, 3, .goto 4, 175, 0, 0, []),
   (174, 1, .iconst 0, 0, 0, 0, []),
   (175, 1, .ireturn, 0, 0, 0, [])],
  [(176, 2, .iload 4, 0, 0, 0, []),
   (178, 1, .ireturn, 0, 0, 0, [])]]
def cd_35 : aCd := [
  [(0, 1, .aload_n 0, 0, 0, 0, []),
   (1, 2, .bipush 99, 0, 0, 99, []),
   (3, 1, .aload_n 0, 0, 0, 0, []),
   (4, 3, .getfield 19, 2, 3, 0, []),
   (7, 1, .iconst 4, 0, 0, 4, []),
   (8, 1, .iadd, 0, 0, 0, []),
   (9, 3, .invokestatic 60, 901, 0, 0, []),
   (12, 3, .putfield 19, 2, 3, 0, []),
   (15, 1, .return_, 0, 0, 0, [])]]
def cd_36 : aCd := [
  [(0, 1, .aload_n 0, 0, 0, 0, []),
   (1, 2, .bipush 9, 0, 0, 9, []),
   (3, 1, .aload_n 0, 0, 0, 0, []),
   (4, 3, .getfield 22, 2, 4, 0, []),
   (7, 1, .iconst 1, 0, 0, 1, []),
   (8, 1, .iadd, 0, 0, 0, []),
   (9, 3, .invokestatic 60, 901, 0, 0, []),
   (12, 3, .putfield 22, 2, 4, 0, []),
   (15, 1, .return_, 0, 0, 0, [])]]
def cd_37 : aCd := [
  [(0, 1, .aload_n 0, 0, 0, 0, []),
   (1, 3, .invokespecial 3, 904, 0, 0, []),
   (4, 1, .aload_n 0, 0, 0, 0, []),
   (5, 3, .new 9, 1, 0, 0, []),
   (8, 1, .dup, 0, 0, 0, []),
   (9, 1, .iconst 0, 0, 0, 0, []),
   (10, 3, .invokespecial 11, 19, 1, 0, []),
   (13, 3, .putfield 14, 3, 0, 0, [])],
  [(16, 1, .aload_n 0, 0, 0, 0, []),
   (17, 1, .iconst 0, 0, 0, 0, []),
   (18, 2, .newarray .byte, 0, 0, 0, []),
   (20, 3, .putfield 20, 3, 1, 0, []),
   (23, 1, .aload_n 0, 0, 0, 0, []),
   (24, 2, .ldc 24, 2000, 1, 0, []),
   (26, 3, .putfield 26, 3, 4, 0, []),
   (29, 1, .return_, 0, 0, 0, [])]]
def cd_38 : aCd := [
  [(0, 1, .aload_n 0, 0, 0, 0, []),
   (1, 1, .aload_n 1, 0, 0, 0, []),
   (2, 3, .putfield 20, 3, 1, 0, []),
   (5, 1, .aload_n 0, 0, 0, 0, []),
   (6, 1, .iload_n 2, 0, 0, 0, []),
   (7, 1, .aload_n 1, 0, 0, 0, []),
   (8, 1, .arraylength, 0, 0, 0, []),
   (9, 3, .invokestatic 30, 901, 0, 0, []),
   (12, 3, .putfield 36, 3, 2, 0, []),
   (15, 1, .aload_n 0, 0, 0, 0, [])],
  [(16, 1, .iload_n 3, 0, 0, 0, []),
   (17, 3, .ifCond .ne 8, 25, 0, 0, []),
   (20, 2, .ldc 40, 2001, 1, 0, []),
   (22, 3, .goto 5, 27, 0, 0, []),
   (25, 2, .ldc 42, 2002, 1, 0, []),
   (27, 3, .putfield 26, 3, 4, 0, []),
   (30, 1, .aload_n 0, 0, 0, 0, []),
   (31, 1, .iconst 0, 0, 0, 0, [])],
  [(32, 3, .putfield 44, 3, 3, 0, []),
   (35, 1, .aload_n 0, 0, 0, 0, []),
   (36, 3, .getfield 14, 3, 0, 0, []),
   (39, 3, .invokevirtual 47, 20, 100, 0, []),
   (42, 1, .aload_n 0, 0, 0, 0, []),
   (43, 1, .iconst 0, 0, 0, 0, []),
   (44, 1, .iconst 0, 0, 0, 0, []),
   (45, 3, .invokevirtual 50, 39, 302, 0, [])],
  [(48, 3, .ifCond .eq 18, 66, 0, 0, []),
   (51, 1, .aload_n 0, 0, 0, 0, []),
   (52, 3, .getfield 44, 3, 3, 0, []),
   (55, 1, .aload_n 0, 0, 0, 0, []),
   (56, 3, .getfield 36, 3, 2, 0, []),
   (59, 3, .if_icmp .lt 7, 66, 0, 0, []),
   (62, 1, .iconst (-1), 0, 0, -1, []),
   (63, 3, .goto 7, 70, 0, 0, [])],
  [(66, 1, .aload_n 0, 0, 0, 0, []),
   (67, 3, .getfield 44, 3, 3, 0, []),
   (70, 1, .ireturn, 0, 0, 0, [])]]
def cd_39 : aCd := [
  [(0, 1, .iload_n 1, 0, 0, 0, []),
   (1, 1, .iconst 5, 0, 0, 5, []),
   (2, 3, .if_icmp .lt 9, 11, 0, 0, []),
   (5, 1, .aload_n 0, 0, 0, 0, []),
   (6, 1, .iload_n 2, 0, 0, 0, []),
   (7, 3, .invokevirtual 54, 40, 301, 0, []),
   (10, 1, .ireturn, 0, 0, 0, []),
   (11, 1, .aload_n 0, 0, 0, 0, []),
   (12, 1, .iload_n 1, 0, 0, 0, []),
   (13, 1, .iconst 1, 0, 0, 1, []),
   (14, 1, .iadd, 0, 0, 0, []),
   (15, 1, .iload_n 2, 0, 0, 0, [])],
  [(16, 3, .invokevirtual 50, 39, 302, 0, []),
   (19, 3, .ifCond .ne 5, 24, 0, 0, []),
   (22, 1, .iconst 0, 0, 0, 0, []),
   (23, 1, .ireturn, 0, 0, 0, []),
   (24, 1, .aload_n 0, 0, 0, 0, []),
   (25, 3, .getfield 44, 3, 3, 0, []),
   (28, 1, .aload_n 0, 0, 0, 0, []),
   (29, 3, .getfield 36, 3, 2, 0, [])],
  [(32, 3, .if_icmp .ge 71, 103, 0, 0, []),
   (35, 1, .aload_n 0, 0, 0, 0, []),
   (36, 3, .getfield 20, 3, 1, 0, []),
   (39, 1, .aload_n 0, 0, 0, 0, []),
   (40, 3, .getfield 44, 3, 3, 0, []),
   (43, 1, .baload, 0, 0, 0, []),
   (44, 3, .invokestatic 58, 44, 1, 0, []),
   (47, 1, .iload_n 1, 0, 0, 0, [])],
  [(48, 3, .if_icmp .ne 55, 103, 0, 0, []),
   (51, 1, .aload_n 0, 0, 0, 0, []),
   (52, 3, .getfield 20, 3, 1, 0, []),
   (55, 1, .aload_n 0, 0, 0, 0, []),
   (56, 3, .getfield 44, 3, 3, 0, []),
   (59, 1, .baload, 0, 0, 0, []),
   (60, 1, .istore_n 3, 0, 0, 0, []),
   (61, 1, .aload_n 0, 0, 0, 0, []),
   (62, 1, .dup, 0, 0, 0, []),
   (63, 3, .getfield 44, 3, 3, 0, [])],
  [(66, 1, .iconst 1, 0, 0, 1, []),
   (67, 1, .iadd, 0, 0, 0, []),
   (68, 3, .putfield 44, 3, 3, 0, []),
   (71, 1, .aload_n 0, 0, 0, 0, []),
   (72, 1, .iload_n 1, 0, 0, 0, []),
   (73, 1, .iconst 1, 0, 0, 1, []),
   (74, 1, .iadd, 0, 0, 0, []),
   (75, 1, .iload_n 2, 0, 0, 0, []),
   (76, 3, .invokevirtual 50, 39, 302, 0, []),
   (79, 3, .ifCond .ne 5, 84, 0, 0, [])],
  [(82, 1, .iconst 0, 0, 0, 0, []),
   (83, 1, .ireturn, 0, 0, 0, []),
   (84, 1, .aload_n 0, 0, 0, 0, []),
   (85, 3, .getfield 14, 3, 0, 0, []),
   (88, 1, .iload_n 3, 0, 0, 0, []),
   (89, 1, .iconst 0, 0, 0, 0, []),
   (90, 3, .invokevirtual 62, 23, 102, 0, []),
   (93, 1, .iload_n 1, 0, 0, 0, []),
   (94, 1, .iconst 2, 0, 0, 2, []),
   (95, 3, .if_icmp .ne 5, 100, 0, 0, [])],
  [(98, 1, .iconst 1, 0, 0, 1, []),
   (99, 1, .ireturn, 0, 0, 0, []),
   (100, 3, .goto (-76), 24, 0, 0, []),
   (103, 1, .iconst 1, 0, 0, 1, []),
   (104, 1, .ireturn, 0, 0, 0, [])]]
def cd_40 : aCd := [
  [(0, 1, .aload_n 0, 0, 0, 0, []),
   (1, 3, .getfield 44, 3, 3, 0, []),
   (4, 1, .aload_n 0, 0, 0, 0, []),
   (5, 3, .getfield 36, 3, 2, 0, []),
   (8, 3, .if_icmp .lt 5, 13, 0, 0, []),
   (11, 1, .iconst 0, 0, 0, 0, []),
   (12, 1, .ireturn, 0, 0, 0, []),
   (13, 1, .aload_n 0, 0, 0, 0, []),
   (14, 3, .getfield 20, 3, 1, 0, [])],
  [(17, 1, .aload_n 0, 0, 0, 0, []),
   (18, 3, .getfield 44, 3, 3, 0, []),
   (21, 1, .baload, 0, 0, 0, []),
   (22, 1, .istore_n 2, 0, 0, 0, []),
   (23, 1, .iload_n 2, 0, 0, 0, []),
   (24, 2, .bipush 48, 0, 0, 48, []),
   (26, 2, .bipush 57, 0, 0, 57, []),
   (28, 3, .invokestatic 66, 106, 3, 0, []),
   (31, 3, .ifCond .eq 9, 40, 0, 0, [])],
  [(34, 1, .aload_n 0, 0, 0, 0, []),
   (35, 3, .invokevirtual 70, 43, 300, 0, []),
   (38, 1, .iconst 1, 0, 0, 1, []),
   (39, 1, .ireturn, 0, 0, 0, []),
   (40, 1, .iload_n 2, 0, 0, 0, []),
   (41, 3, .ifCond .le 15, 56, 0, 0, []),
   (44, 1, .aload_n 0, 0, 0, 0, []),
   (45, 3, .getfield 26, 3, 4, 0, [])],
  [(48, 1, .iload_n 2, 0, 0, 0, []),
   (49, 1, .i2c, 0, 0, 0, []),
   (50, 3, .invokevirtual 73, 221, 1201, 0, []),
   (53, 3, .goto 4, 57, 0, 0, []),
   (56, 1, .iconst (-1), 0, 0, -1, []),
   (57, 1, .istore_n 3, 0, 0, 0, []),
   (58, 1, .iload_n 3, 0, 0, 0, []),
   (59, 3, .ifCond .lt 25, 84, 0, 0, []),
   (62, 1, .aload_n 0, 0, 0, 0, []),
   (63, 1, .dup, 0, 0, 0, [])],
  [(64, 3, .getfield 44, 3, 3, 0, []),
   (67, 1, .iconst 1, 0, 0, 1, []),
   (68, 1, .iadd, 0, 0, 0, []),
   (69, 3, .putfield 44, 3, 3, 0, []),
   (72, 1, .aload_n 0, 0, 0, 0, []),
   (73, 3, .getfield 14, 3, 0, 0, []),
   (76, 2, .bipush 118, 0, 0, 118, []),
   (78, 1, .iload_n 3, 0, 0, 0, []),
   (79, 3, .invokevirtual 62, 23, 102, 0, [])],
  [(82, 1, .iconst 1, 0, 0, 1, []),
   (83, 1, .ireturn, 0, 0, 0, []),
   (84, 1, .iload_n 1, 0, 0, 0, []),
   (85, 1, .iconst 5, 0, 0, 5, []),
   (86, 3, .if_icmp .ge 15, 101, 0, 0, []),
   (89, 1, .iload_n 2, 0, 0, 0, []),
   (90, 2, .bipush 33, 0, 0, 33, []),
   (92, 3, .if_icmp .eq 11, 103, 0, 0, []),
   (95, 1, .iload_n 2, 0, 0, 0, [])],
  [(96, 2, .bipush 40, 0, 0, 40, []),
   (98, 3, .if_icmp .eq 5, 103, 0, 0, []),
   (101, 1, .iconst 0, 0, 0, 0, []),
   (102, 1, .ireturn, 0, 0, 0, []),
   (103, 1, .aload_n 0, 0, 0, 0, []),
   (104, 1, .dup, 0, 0, 0, []),
   (105, 3, .getfield 44, 3, 3, 0, []),
   (108, 1, .iconst 1, 0, 0, 1, []),
   (109, 1, .iadd, 0, 0, 0, []),
   (110, 3, .putfield 44, 3, 3, 0, [])],
  [(113, 1, .iload_n 2, 0, 0, 0, []),
   (114, 2, .bipush 33, 0, 0, 33, []),
   (116, 3, .if_icmp .ne 13, 129, 0, 0, []),
   (119, 1, .aload_n 0, 0, 0, 0, []),
   (120, 1, .iload_n 1, 0, 0, 0, []),
   (121, 1, .iconst 1, 0, 0, 1, []),
   (122, 1, .iadd, 0, 0, 0, []),
   (123, 3, .invokevirtual 78, 41, 301, 0, []),
   (126, 3, .goto 10, 136, 0, 0, [])],
  [(129, 1, .aload_n 0, 0, 0, 0, []),
   (130, 1, .iload_n 1, 0, 0, 0, []),
   (131, 1, .iconst 1, 0, 0, 1, []),
   (132, 1, .iadd, 0, 0, 0, []),
   (133, 3, .invokevirtual 81, 42, 301, 0, []),
   (136, 1, .ireturn, 0, 0, 0, [])]]
def cd_41 : aCd := [
  [(0, 1, .aload_n 0, 0, 0, 0, []),
   (1, 1, .iload_n 1, 0, 0, 0, []),
   (2, 3, .invokevirtual 54, 40, 301, 0, []),
   (5, 3, .ifCond .ne 5, 10, 0, 0, []),
   (8, 1, .iconst 0, 0, 0, 0, []),
   (9, 1, .ireturn, 0, 0, 0, []),
   (10, 1, .aload_n 0, 0, 0, 0, []),
   (11, 3, .getfield 14, 3, 0, 0, []),
   (14, 2, .bipush 33, 0, 0, 33, [])],
  [(16, 1, .iconst 0, 0, 0, 0, []),
   (17, 3, .invokevirtual 62, 23, 102, 0, []),
   (20, 1, .iconst 1, 0, 0, 1, []),
   (21, 1, .ireturn, 0, 0, 0, [])]]
def cd_42 : aCd := [
  [(0, 1, .aload_n 0, 0, 0, 0, []),
   (1, 1, .iconst 0, 0, 0, 0, []),
   (2, 1, .iload_n 1, 0, 0, 0, []),
   (3, 3, .invokevirtual 50, 39, 302, 0, []),
   (6, 3, .ifCond .eq 28, 34, 0, 0, []),
   (9, 1, .aload_n 0, 0, 0, 0, []),
   (10, 3, .getfield 44, 3, 3, 0, []),
   (13, 1, .aload_n 0, 0, 0, 0, []),
   (14, 3, .getfield 36, 3, 2, 0, [])],
  [(17, 3, .if_icmp .ge 17, 34, 0, 0, []),
   (20, 1, .aload_n 0, 0, 0, 0, []),
   (21, 3, .getfield 20, 3, 1, 0, []),
   (24, 1, .aload_n 0, 0, 0, 0, []),
   (25, 3, .getfield 44, 3, 3, 0, []),
   (28, 1, .baload, 0, 0, 0, []),
   (29, 2, .bipush 41, 0, 0, 41, []),
   (31, 3, .if_icmp .eq 5, 36, 0, 0, [])],
  [(34, 1, .iconst 0, 0, 0, 0, []),
   (35, 1, .ireturn, 0, 0, 0, []),
   (36, 1, .aload_n 0, 0, 0, 0, []),
   (37, 1, .dup, 0, 0, 0, []),
   (38, 3, .getfield 44, 3, 3, 0, []),
   (41, 1, .iconst 1, 0, 0, 1, []),
   (42, 1, .iadd, 0, 0, 0, []),
   (43, 3, .putfield 44, 3, 3, 0, []),
   (46, 1, .iconst 1, 0, 0, 1, []),
   (47, 1, .ireturn, 0, 0, 0, [])]]
def cd_43 : aCd := [
  [(0, 1, .iconst 0, 0, 0, 0, []),
   (1, 1, .istore_n 1, 0, 0, 0, []),
   (2, 1, .iconst 0, 0, 0, 0, []),
   (3, 1, .istore_n 2, 0, 0, 0, []),
   (4, 1, .iload_n 2, 0, 0, 0, []),
   (5, 1, .iconst 4, 0, 0, 4, []),
   (6, 3, .if_icmp .ge 67, 73, 0, 0, []),
   (9, 1, .aload_n 0, 0, 0, 0, []),
   (10, 3, .getfield 44, 3, 3, 0, []),
   (13, 1, .aload_n 0, 0, 0, 0, []),
   (14, 3, .getfield 36, 3, 2, 0, [])],
  [(17, 3, .if_icmp .ge 56, 73, 0, 0, []),
   (20, 1, .aload_n 0, 0, 0, 0, []),
   (21, 3, .getfield 20, 3, 1, 0, []),
   (24, 1, .aload_n 0, 0, 0, 0, []),
   (25, 3, .getfield 44, 3, 3, 0, []),
   (28, 1, .baload, 0, 0, 0, []),
   (29, 2, .bipush 48, 0, 0, 48, []),
   (31, 2, .bipush 57, 0, 0, 57, [])],
  [(33, 3, .invokestatic 66, 106, 3, 0, []),
   (36, 3, .ifCond .eq 37, 73, 0, 0, []),
   (39, 2, .bipush 10, 0, 0, 10, []),
   (41, 1, .iload_n 1, 0, 0, 0, []),
   (42, 1, .imul, 0, 0, 0, []),
   (43, 1, .aload_n 0, 0, 0, 0, []),
   (44, 3, .getfield 20, 3, 1, 0, []),
   (47, 1, .aload_n 0, 0, 0, 0, [])],
  [(48, 3, .getfield 44, 3, 3, 0, []),
   (51, 1, .baload, 0, 0, 0, []),
   (52, 2, .bipush 48, 0, 0, 48, []),
   (54, 1, .isub, 0, 0, 0, []),
   (55, 1, .iadd, 0, 0, 0, []),
   (56, 1, .istore_n 1, 0, 0, 0, []),
   (57, 1, .aload_n 0, 0, 0, 0, []),
   (58, 1, .dup, 0, 0, 0, []),
   (59, 3, .getfield 44, 3, 3, 0, []),
   (62, 1, .iconst 1, 0, 0, 1, []),
   (63, 1, .iadd, 0, 0, 0, [])],
  [(64, 3, .putfield 44, 3, 3, 0, []),
   (67, 3, .iinc 2 1, 0, 0, 1, []),
   (70, 3, .goto (-66), 4, 0, 0, []),
   (73, 1, .aload_n 0, 0, 0, 0, []),
   (74, 3, .getfield 14, 3, 0, 0, []),
   (77, 2, .bipush 110, 0, 0, 110, []),
   (79, 1, .iload_n 1, 0, 0, 0, [])],
  [(80, 3, .invokevirtual 62, 23, 102, 0, []),
   (83, 1, .return_, 0, 0, 0, [])]]
def cd_44 : aCd := [
  [(0, 1, .iload_n 0, 0, 0, 0, []),
   (1, 91, .lookupswitch 101 #[(37, 99), (38, 93), (42, 99), (43, 97), (45, 97), (47, 99), (60, 95), (61, 95), (62, 95), (124, 91)], 102, 0, 0, [(37, 100), (38, 94), (42, 100), (43, 98), (45, 98), (47, 100), (60, 96), (61, 96), (62, 96), (124, 92)])],
  [],
  [],
  [],
  [],
  [(92, 1, .iconst 0, 0, 0, 0, []),
   (93, 1, .ireturn, 0, 0, 0, []),
   (94, 1, .iconst 1, 0, 0, 1, []),
   (95, 1, .ireturn, 0, 0, 0, [])],
  [(96, 1, .iconst 2, 0, 0, 2, []),
   (97, 1, .ireturn, 0, 0, 0, []),
   (98, 1, .iconst 3, 0, 0, 3, []),
   (99, 1, .ireturn, 0, 0, 0, []),
   (100, 1, .iconst 4, 0, 0, 4, []),
   (101, 1, .ireturn, 0, 0, 0, []),
   (102, 1, .iconst (-1), 0, 0, -1, []),
   (103, 1, .ireturn, 0, 0, 0, [])]]
def cd_45 : aCd := [
  [(0, 1, .aload_n 0, 0, 0, 0, []),
   (1, 3, .invokespecial 3, 904, 0, 0, []),
   (4, 1, .aload_n 0, 0, 0, 0, []),
   (5, 2, .bipush 24, 0, 0, 24, []),
   (7, 2, .newarray .int, 0, 0, 0, []),
   (9, 3, .putfield 9, 4, 0, 0, []),
   (12, 1, .return_, 0, 0, 0, [])]]
def cd_46 : aCd := [
  [(0, 1, .aload_n 0, 0, 0, 0, []),
   (1, 3, .getfield 15, 4, 1, 0, []),
   (4, 3, .ifCond .ne 7, 11, 0, 0, []),
   (7, 1, .iconst 1, 0, 0, 1, []),
   (8, 3, .goto 4, 12, 0, 0, []),
   (11, 1, .iconst 0, 0, 0, 0, []),
   (12, 1, .ireturn, 0, 0, 0, [])]]
def cd_47 : aCd := [
  [(0, 1, .aload_n 0, 0, 0, 0, []),
   (1, 1, .iload_n 1, 0, 0, 0, []),
   (2, 3, .putfield 15, 4, 1, 0, []),
   (5, 1, .aload_n 0, 0, 0, 0, []),
   (6, 1, .iload_n 2, 0, 0, 0, []),
   (7, 3, .putfield 19, 4, 2, 0, []),
   (10, 1, .aload_n 0, 0, 0, 0, []),
   (11, 3, .getfield 9, 4, 0, 0, []),
   (14, 1, .iconst 0, 0, 0, 0, []),
   (15, 3, .invokestatic 22, 220, 2, 0, [])],
  [(18, 1, .return_, 0, 0, 0, [])]]
def cd_48 : aCd := [
  [(0, 1, .iload_n 2, 0, 0, 0, []),
   (1, 3, .ifCond .lt 29, 30, 0, 0, []),
   (4, 1, .iload_n 2, 0, 0, 0, []),
   (5, 1, .aload_n 0, 0, 0, 0, []),
   (6, 3, .getfield 19, 4, 2, 0, []),
   (9, 3, .if_icmp .gt 21, 30, 0, 0, []),
   (12, 1, .iload_n 1, 0, 0, 0, []),
   (13, 1, .iconst 0, 0, 0, 0, []),
   (14, 1, .aload_n 0, 0, 0, 0, []),
   (15, 3, .getfield 19, 4, 2, 0, [])],
  [(18, 1, .iload_n 2, 0, 0, 0, []),
   (19, 1, .isub, 0, 0, 0, []),
   (20, 3, .invokestatic 28, 106, 3, 0, []),
   (23, 3, .ifCond .eq 7, 30, 0, 0, []),
   (26, 1, .iconst 1, 0, 0, 1, []),
   (27, 3, .goto 4, 31, 0, 0, []),
   (30, 1, .iconst 0, 0, 0, 0, []),
   (31, 1, .ireturn, 0, 0, 0, [])]]
def cd_49 : aCd := [
  [(0, 1, .aload_n 0, 0, 0, 0, []),
   (1, 3, .getfield 9, 4, 0, 0, []),
   (4, 1, .iload_n 1, 0, 0, 0, []),
   (5, 1, .aload_n 0, 0, 0, 0, []),
   (6, 3, .getfield 15, 4, 1, 0, []),
   (9, 2, .bipush 8, 0, 0, 8, []),
   (11, 3, .if_icmp .ne 8, 19, 0, 0, []),
   (14, 1, .iload_n 2, 0, 0, 0, []),
   (15, 1, .i2b, 0, 0, 0, [])],
  [(16, 3, .goto 18, 34, 0, 0, []),
   (19, 1, .aload_n 0, 0, 0, 0, []),
   (20, 3, .getfield 15, 4, 1, 0, []),
   (23, 2, .bipush 16, 0, 0, 16, []),
   (25, 3, .if_icmp .ne 8, 33, 0, 0, []),
   (28, 1, .iload_n 2, 0, 0, 0, []),
   (29, 1, .i2s, 0, 0, 0, []),
   (30, 3, .goto 4, 34, 0, 0, [])],
  [(33, 1, .iload_n 2, 0, 0, 0, []),
   (34, 1, .iastore, 0, 0, 0, []),
   (35, 1, .return_, 0, 0, 0, [])]]
def cd_50 : aCd := [
  [(0, 1, .aload_n 0, 0, 0, 0, []),
   (1, 3, .invokespecial 3, 904, 0, 0, []),
   (4, 1, .return_, 0, 0, 0, [])]]
def cd_51 : aCd := [
  [(0, 1, .aload_n 0, 0, 0, 0, []),
   (1, 1, .iload_n 1, 0, 0, 0, []),
   (2, 3, .putfield 9, 5, 0, 0, []),
   (5, 1, .aload_n 0, 0, 0, 0, []),
   (6, 1, .iload_n 2, 0, 0, 0, []),
   (7, 3, .putfield 15, 5, 1, 0, []),
   (10, 1, .aload_n 0, 0, 0, 0, []),
   (11, 1, .iload_n 3, 0, 0, 0, []),
   (12, 3, .putfield 18, 5, 2, 0, []),
   (15, 1, .aload_n 0, 0, 0, 0, [])],
  [(16, 2, .iload 4, 0, 0, 0, []),
   (18, 3, .putfield 21, 5, 3, 0, []),
   (21, 1, .aload_n 0, 0, 0, 0, []),
   (22, 1, .iconst 0, 0, 0, 0, []),
   (23, 3, .putfield 24, 5, 4, 0, []),
   (26, 1, .aload_n 0, 0, 0, 0, []),
   (27, 1, .iconst 1, 0, 0, 1, []),
   (28, 3, .putfield 27, 5, 5, 0, []),
   (31, 1, .aload_n 0, 0, 0, 0, [])],
  [(32, 1, .iconst (-1), 0, 0, -1, []),
   (33, 3, .putfield 31, 5, 6, 0, []),
   (36, 1, .return_, 0, 0, 0, [])]]
def cd_52 : aCd := [
  [(0, 1, .aload_n 0, 0, 0, 0, []),
   (1, 1, .aload_n 1, 0, 0, 0, []),
   (2, 3, .getfield 9, 5, 0, 0, []),
   (5, 3, .putfield 9, 5, 0, 0, []),
   (8, 1, .aload_n 0, 0, 0, 0, []),
   (9, 1, .aload_n 1, 0, 0, 0, []),
   (10, 3, .getfield 15, 5, 1, 0, []),
   (13, 3, .putfield 15, 5, 1, 0, [])],
  [(16, 1, .aload_n 0, 0, 0, 0, []),
   (17, 1, .aload_n 1, 0, 0, 0, []),
   (18, 3, .getfield 18, 5, 2, 0, []),
   (21, 3, .putfield 18, 5, 2, 0, []),
   (24, 1, .aload_n 0, 0, 0, 0, []),
   (25, 1, .aload_n 1, 0, 0, 0, []),
   (26, 3, .getfield 21, 5, 3, 0, []),
   (29, 3, .putfield 21, 5, 3, 0, [])],
  [(32, 1, .aload_n 0, 0, 0, 0, []),
   (33, 1, .aload_n 1, 0, 0, 0, []),
   (34, 3, .getfield 24, 5, 4, 0, []),
   (37, 3, .putfield 24, 5, 4, 0, []),
   (40, 1, .aload_n 0, 0, 0, 0, []),
   (41, 1, .aload_n 1, 0, 0, 0, []),
   (42, 3, .getfield 27, 5, 5, 0, []),
   (45, 3, .putfield 27, 5, 5, 0, [])],
  [(48, 1, .aload_n 0, 0, 0, 0, []),
   (49, 1, .aload_n 1, 0, 0, 0, []),
   (50, 3, .getfield 31, 5, 6, 0, []),
   (53, 3, .putfield 31, 5, 6, 0, []),
   (56, 1, .return_, 0, 0, 0, [])]]
def cd_53 : aCd := [
  [(0, 1, .aload_n 0, 0, 0, 0, []),
   (1, 3, .getfield 27, 5, 5, 0, []),
   (4, 3, .ifCond .eq 14, 18, 0, 0, []),
   (7, 1, .aload_n 0, 0, 0, 0, []),
   (8, 3, .getfield 24, 5, 4, 0, []),
   (11, 3, .ifCond .ne 7, 18, 0, 0, []),
   (14, 1, .iconst 1, 0, 0, 1, []),
   (15, 3, .goto 4, 19, 0, 0, [])],
  [(18, 1, .iconst 0, 0, 0, 0, []),
   (19, 1, .ireturn, 0, 0, 0, [])]]
def cd_54 : aCd := [
  [(0, 1, .aload_n 0, 0, 0, 0, []),
   (1, 1, .iconst 0, 0, 0, 0, []),
   (2, 3, .putfield 27, 5, 5, 0, []),
   (5, 1, .aload_n 0, 0, 0, 0, []),
   (6, 1, .iload_n 1, 0, 0, 0, []),
   (7, 3, .putfield 31, 5, 6, 0, []),
   (10, 1, .return_, 0, 0, 0, [])]]
def cd_55 : aCd := [
  [(0, 1, .aload_n 0, 0, 0, 0, []),
   (1, 1, .iconst 1, 0, 0, 1, []),
   (2, 3, .putfield 27, 5, 5, 0, []),
   (5, 1, .aload_n 0, 0, 0, 0, []),
   (6, 1, .iconst (-1), 0, 0, -1, []),
   (7, 3, .putfield 31, 5, 6, 0, []),
   (10, 1, .aload_n 0, 0, 0, 0, []),
   (11, 1, .iconst 0, 0, 0, 0, []),
   (12, 3, .putfield 21, 5, 3, 0, []),
   (15, 1, .return_, 0, 0, 0, [])]]
def cd_56 : aCd := [
  [(0, 1, .aload_n 0, 0, 0, 0, []),
   (1, 2, .bipush 9, 0, 0, 9, []),
   (3, 1, .aload_n 0, 0, 0, 0, []),
   (4, 3, .getfield 21, 5, 3, 0, []),
   (7, 1, .iconst 1, 0, 0, 1, []),
   (8, 1, .iadd, 0, 0, 0, []),
   (9, 3, .invokestatic 34, 901, 0, 0, []),
   (12, 3, .putfield 21, 5, 3, 0, []),
   (15, 1, .return_, 0, 0, 0, [])]]
def cd_57 : aCd := [
  [(0, 1, .aload_n 0, 0, 0, 0, []),
   (1, 3, .invokespecial 3, 904, 0, 0, []),
   (4, 1, .aload_n 0, 0, 0, 0, []),
   (5, 2, .bipush 30, 0, 0, 30, []),
   (7, 2, .newarray .int, 0, 0, 0, []),
   (9, 3, .putfield 11, 6, 0, 0, []),
   (12, 1, .return_, 0, 0, 0, [])]]
def cd_58 : aCd := [
  [(0, 1, .aload_n 0, 0, 0, 0, []),
   (1, 1, .aload_n 1, 0, 0, 0, []),
   (2, 3, .getfield 15, 2, 0, 0, []),
   (5, 3, .putfield 21, 6, 4, 0, []),
   (8, 1, .aload_n 0, 0, 0, 0, []),
   (9, 1, .aload_n 1, 0, 0, 0, []),
   (10, 3, .getfield 22, 2, 2, 0, []),
   (13, 3, .putfield 25, 6, 5, 0, [])],
  [(16, 1, .aload_n 0, 0, 0, 0, []),
   (17, 1, .aload_n 1, 0, 0, 0, []),
   (18, 3, .getfield 26, 2, 1, 0, []),
   (21, 3, .putfield 29, 6, 6, 0, []),
   (24, 1, .aload_n 0, 0, 0, 0, []),
   (25, 1, .iconst 0, 0, 0, 0, []),
   (26, 3, .putfield 30, 6, 1, 0, []),
   (29, 1, .aload_n 0, 0, 0, 0, []),
   (30, 1, .iconst 0, 0, 0, 0, []),
   (31, 3, .putfield 33, 6, 3, 0, [])],
  [(34, 1, .aload_n 0, 0, 0, 0, []),
   (35, 1, .aload_n 0, 0, 0, 0, []),
   (36, 1, .iload_n 2, 0, 0, 0, []),
   (37, 1, .aload_n 0, 0, 0, 0, []),
   (38, 3, .getfield 29, 6, 6, 0, []),
   (41, 1, .iload_n 3, 0, 0, 0, []),
   (42, 1, .iconst 0, 0, 0, 0, []),
   (43, 3, .invokevirtual 37, 59, 604, 0, []),
   (46, 3, .putfield 41, 6, 2, 0, [])],
  [(49, 1, .aload_n 0, 0, 0, 0, []),
   (50, 3, .getfield 33, 6, 3, 0, []),
   (53, 3, .ifCond .ne 7, 60, 0, 0, []),
   (56, 1, .iconst 1, 0, 0, 1, []),
   (57, 3, .goto 4, 61, 0, 0, []),
   (60, 1, .iconst 0, 0, 0, 0, []),
   (61, 1, .ireturn, 0, 0, 0, [])]]
def cd_59 : aCd := [
  [(0, 1, .iload_n 1, 0, 0, 0, []),
   (1, 1, .iload_n 2, 0, 0, 0, []),
   (2, 3, .invokestatic 44, 60, 2, 0, []),
   (5, 2, .istore 5, 0, 0, 0, []),
   (7, 1, .aload_n 0, 0, 0, 0, []),
   (8, 3, .getfield 33, 6, 3, 0, []),
   (11, 3, .ifCond .ne 15, 26, 0, 0, []),
   (14, 2, .iload 5, 0, 0, 0, [])],
  [(16, 3, .ifCond .lt 10, 26, 0, 0, []),
   (19, 2, .iload 4, 0, 0, 0, []),
   (21, 2, .bipush 20, 0, 0, 20, []),
   (23, 3, .if_icmp .lt 5, 28, 0, 0, []),
   (26, 1, .iconst 0, 0, 0, 0, []),
   (27, 1, .ireturn, 0, 0, 0, []),
   (28, 3, .getstatic 48, 1002, 0, 0, []),
   (31, 1, .iconst 4, 0, 0, 4, [])],
  [(32, 2, .iload 5, 0, 0, 0, []),
   (34, 1, .imul, 0, 0, 0, []),
   (35, 1, .iload_n 1, 0, 0, 0, []),
   (36, 1, .iadd, 0, 0, 0, []),
   (37, 1, .iaload, 0, 0, 0, []),
   (38, 2, .istore 6, 0, 0, 0, []),
   (40, 3, .getstatic 51, 1000, 0, 0, []),
   (43, 2, .iload 5, 0, 0, 0, []),
   (45, 1, .iaload, 0, 0, 0, []),
   (46, 2, .istore 7, 0, 0, 0, [])],
  [(48, 1, .aload_n 0, 0, 0, 0, []),
   (49, 2, .iload 6, 0, 0, 0, []),
   (51, 3, .invokevirtual 54, 61, 601, 0, []),
   (54, 2, .iload 6, 0, 0, 0, []),
   (56, 108, .lookupswitch 291 #[(10, 108), (11, 115), (12, 132), (13, 152), (20, 167), (21, 182), (30, 210), (40, 225), (50, 240), (51, 255), (60, 273), (70, 288)], 347, 0, 0, [(10, 164), (11, 171), (12, 188), (13, 208), (20, 223), (21, 238), (30, 266), (40, 281), (50, 296), (51, 311), (60, 329), (70, 344)])],
  [],
  [],
  [],
  [],
  [],
  [],
  [(164, 1, .iload_n 3, 0, 0, 0, []),
   (165, 1, .aload_n 0, 0, 0, 0, []),
   (166, 3, .getfield 21, 6, 4, 0, []),
   (169, 1, .iadd, 0, 0, 0, []),
   (170, 1, .ireturn, 0, 0, 0, []),
   (171, 1, .aload_n 0, 0, 0, 0, []),
   (172, 1, .iconst 0, 0, 0, 0, []),
   (173, 1, .aload_n 0, 0, 0, 0, []),
   (174, 3, .getfield 29, 6, 6, 0, [])],
  [(177, 1, .iload_n 3, 0, 0, 0, []),
   (178, 2, .iload 4, 0, 0, 0, []),
   (180, 1, .iconst 1, 0, 0, 1, []),
   (181, 1, .iadd, 0, 0, 0, []),
   (182, 3, .invokevirtual 37, 59, 604, 0, []),
   (185, 1, .iconst 2, 0, 0, 2, []),
   (186, 1, .imul, 0, 0, 0, []),
   (187, 1, .ireturn, 0, 0, 0, []),
   (188, 1, .aload_n 0, 0, 0, 0, []),
   (189, 1, .iconst 1, 0, 0, 1, []),
   (190, 1, .aload_n 0, 0, 0, 0, []),
   (191, 3, .getfield 29, 6, 6, 0, [])],
  [(194, 1, .iload_n 3, 0, 0, 0, []),
   (195, 2, .iload 4, 0, 0, 0, []),
   (197, 1, .iconst 1, 0, 0, 1, []),
   (198, 1, .iadd, 0, 0, 0, []),
   (199, 3, .invokevirtual 37, 59, 604, 0, []),
   (202, 1, .aload_n 0, 0, 0, 0, []),
   (203, 3, .getfield 25, 6, 5, 0, []),
   (206, 1, .isub, 0, 0, 0, []),
   (207, 1, .ireturn, 0, 0, 0, [])],
  [(208, 1, .aload_n 0, 0, 0, 0, []),
   (209, 1, .iload_n 3, 0, 0, 0, []),
   (210, 1, .aload_n 0, 0, 0, 0, []),
   (211, 3, .getfield 25, 6, 5, 0, []),
   (214, 1, .aload_n 0, 0, 0, 0, []),
   (215, 3, .getfield 21, 6, 4, 0, []),
   (218, 1, .isub, 0, 0, 0, []),
   (219, 3, .invokevirtual 58, 62, 602, 0, []),
   (222, 1, .ireturn, 0, 0, 0, []),
   (223, 1, .aload_n 0, 0, 0, 0, [])],
  [(224, 1, .iconst 0, 0, 0, 0, []),
   (225, 2, .iload 7, 0, 0, 0, []),
   (227, 1, .iload_n 3, 0, 0, 0, []),
   (228, 2, .iload 4, 0, 0, 0, []),
   (230, 1, .iconst 1, 0, 0, 1, []),
   (231, 1, .iadd, 0, 0, 0, []),
   (232, 3, .invokevirtual 37, 59, 604, 0, []),
   (235, 1, .iconst 4, 0, 0, 4, []),
   (236, 1, .isub, 0, 0, 0, []),
   (237, 1, .ireturn, 0, 0, 0, []),
   (238, 1, .aload_n 0, 0, 0, 0, []),
   (239, 1, .iconst 3, 0, 0, 3, [])],
  [(240, 2, .iload 7, 0, 0, 0, []),
   (242, 1, .iload_n 3, 0, 0, 0, []),
   (243, 2, .iload 4, 0, 0, 0, []),
   (245, 1, .iconst 1, 0, 0, 1, []),
   (246, 1, .iadd, 0, 0, 0, []),
   (247, 3, .invokevirtual 37, 59, 604, 0, []),
   (250, 1, .aload_n 0, 0, 0, 0, []),
   (251, 1, .iconst 1, 0, 0, 1, []),
   (252, 1, .aload_n 0, 0, 0, 0, []),
   (253, 3, .getfield 29, 6, 6, 0, [])],
  [(256, 1, .iconst 1, 0, 0, 1, []),
   (257, 2, .iload 4, 0, 0, 0, []),
   (259, 1, .iconst 1, 0, 0, 1, []),
   (260, 1, .iadd, 0, 0, 0, []),
   (261, 3, .invokevirtual 37, 59, 604, 0, []),
   (264, 1, .iadd, 0, 0, 0, []),
   (265, 1, .ireturn, 0, 0, 0, []),
   (266, 1, .iconst 0, 0, 0, 0, []),
   (267, 1, .aload_n 0, 0, 0, 0, []),
   (268, 1, .iconst 1, 0, 0, 1, []),
   (269, 2, .iload 7, 0, 0, 0, []),
   (271, 1, .iload_n 3, 0, 0, 0, [])],
  [(272, 2, .iload 4, 0, 0, 0, []),
   (274, 1, .iconst 1, 0, 0, 1, []),
   (275, 1, .iadd, 0, 0, 0, []),
   (276, 3, .invokevirtual 37, 59, 604, 0, []),
   (279, 1, .isub, 0, 0, 0, []),
   (280, 1, .ireturn, 0, 0, 0, []),
   (281, 1, .aload_n 0, 0, 0, 0, []),
   (282, 1, .iconst 2, 0, 0, 2, []),
   (283, 2, .iload 7, 0, 0, 0, []),
   (285, 1, .iload_n 3, 0, 0, 0, []),
   (286, 1, .iconst 2, 0, 0, 2, []),
   (287, 1, .idiv, 0, 0, 0, [])],
  [(288, 2, .iload 4, 0, 0, 0, []),
   (290, 1, .iconst 1, 0, 0, 1, []),
   (291, 1, .iadd, 0, 0, 0, []),
   (292, 3, .invokevirtual 37, 59, 604, 0, []),
   (295, 1, .ireturn, 0, 0, 0, []),
   (296, 1, .aload_n 0, 0, 0, 0, []),
   (297, 1, .iconst 0, 0, 0, 0, []),
   (298, 2, .iload 7, 0, 0, 0, []),
   (300, 1, .iload_n 3, 0, 0, 0, []),
   (301, 2, .iload 4, 0, 0, 0, []),
   (303, 1, .iconst 1, 0, 0, 1, [])],
  [(304, 1, .iadd, 0, 0, 0, []),
   (305, 3, .invokevirtual 37, 59, 604, 0, []),
   (308, 1, .iconst 3, 0, 0, 3, []),
   (309, 1, .imul, 0, 0, 0, []),
   (310, 1, .ireturn, 0, 0, 0, []),
   (311, 1, .aload_n 0, 0, 0, 0, []),
   (312, 1, .iconst 2, 0, 0, 2, []),
   (313, 2, .iload 7, 0, 0, 0, []),
   (315, 1, .iload_n 3, 0, 0, 0, []),
   (316, 2, .iload 4, 0, 0, 0, []),
   (318, 1, .iconst 1, 0, 0, 1, []),
   (319, 1, .iadd, 0, 0, 0, [])],
  [(320, 3, .invokevirtual 37, 59, 604, 0, []),
   (323, 1, .aload_n 0, 0, 0, 0, []),
   (324, 3, .getfield 21, 6, 4, 0, []),
   (327, 1, .ixor, 0, 0, 0, []),
   (328, 1, .ireturn, 0, 0, 0, []),
   (329, 1, .aload_n 0, 0, 0, 0, []),
   (330, 1, .iconst 1, 0, 0, 1, []),
   (331, 2, .iload 7, 0, 0, 0, []),
   (333, 1, .iload_n 3, 0, 0, 0, []),
   (334, 1, .iconst 1, 0, 0, 1, []),
   (335, 1, .iadd, 0, 0, 0, [])],
  [(336, 2, .iload 4, 0, 0, 0, []),
   (338, 1, .iconst 1, 0, 0, 1, []),
   (339, 1, .iadd, 0, 0, 0, []),
   (340, 3, .invokevirtual 37, 59, 604, 0, []),
   (343, 1, .ireturn, 0, 0, 0, []),
   (344, 2, .bipush 9, 0, 0, 9, []),
   (346, 1, .ireturn, 0, 0, 0, []),
   (347, 1, .aload_n 0, 0, 0, 0, []),
   (348, 1, .iconst 1, 0, 0, 1, []),
   (349, 2, .iload 7, 0, 0, 0, []),
   (351, 1, .iload_n 3, 0, 0, 0, [])],
  [(352, 2, .iload 4, 0, 0, 0, []),
   (354, 1, .iconst 1, 0, 0, 1, []),
   (355, 1, .iadd, 0, 0, 0, []),
   (356, 3, .invokevirtual 37, 59, 604, 0, []),
   (359, 1, .aload_n 0, 0, 0, 0, []),
   (360, 3, .getfield 25, 6, 5, 0, []),
   (363, 1, .iadd, 0, 0, 0, []),
   (364, 1, .ireturn, 0, 0, 0, [])]]
def cd_60 : aCd := [
  [(0, 1, .iload_n 1, 0, 0, 0, []),
   (1, 1, .istore_n 2, 0, 0, 0, []),
   (2, 1, .iconst 0, 0, 0, 0, []),
   (3, 1, .istore_n 3, 0, 0, 0, []),
   (4, 1, .iload_n 3, 0, 0, 0, []),
   (5, 2, .bipush 7, 0, 0, 7, []),
   (7, 3, .if_icmp .ge 39, 46, 0, 0, []),
   (10, 1, .iload_n 2, 0, 0, 0, []),
   (11, 1, .iconst 0, 0, 0, 0, []),
   (12, 2, .bipush 6, 0, 0, 6, []),
   (14, 3, .invokestatic 61, 106, 3, 0, [])],
  [(17, 3, .ifCond .eq 29, 46, 0, 0, []),
   (20, 3, .getstatic 48, 1002, 0, 0, []),
   (23, 1, .iconst 4, 0, 0, 4, []),
   (24, 1, .iload_n 2, 0, 0, 0, []),
   (25, 1, .imul, 0, 0, 0, []),
   (26, 1, .iload_n 0, 0, 0, 0, []),
   (27, 1, .iadd, 0, 0, 0, []),
   (28, 1, .iaload, 0, 0, 0, []),
   (29, 3, .ifCond .eq 5, 34, 0, 0, [])],
  [(32, 1, .iload_n 2, 0, 0, 0, []),
   (33, 1, .ireturn, 0, 0, 0, []),
   (34, 3, .getstatic 51, 1000, 0, 0, []),
   (37, 1, .iload_n 2, 0, 0, 0, []),
   (38, 1, .iaload, 0, 0, 0, []),
   (39, 1, .istore_n 2, 0, 0, 0, []),
   (40, 3, .iinc 3 1, 0, 0, 1, []),
   (43, 3, .goto (-39), 4, 0, 0, []),
   (46, 1, .iconst (-1), 0, 0, -1, []),
   (47, 1, .ireturn, 0, 0, 0, [])]]
def cd_61 : aCd := [
  [(0, 1, .aload_n 0, 0, 0, 0, []),
   (1, 3, .getfield 30, 6, 1, 0, []),
   (4, 2, .bipush 30, 0, 0, 30, []),
   (6, 3, .if_icmp .ge 23, 29, 0, 0, []),
   (9, 1, .aload_n 0, 0, 0, 0, []),
   (10, 3, .getfield 11, 6, 0, 0, []),
   (13, 1, .aload_n 0, 0, 0, 0, []),
   (14, 3, .getfield 30, 6, 1, 0, [])],
  [(17, 1, .iload_n 1, 0, 0, 0, []),
   (18, 1, .iastore, 0, 0, 0, []),
   (19, 1, .aload_n 0, 0, 0, 0, []),
   (20, 1, .dup, 0, 0, 0, []),
   (21, 3, .getfield 30, 6, 1, 0, []),
   (24, 1, .iconst 1, 0, 0, 1, []),
   (25, 1, .iadd, 0, 0, 0, []),
   (26, 3, .putfield 30, 6, 1, 0, []),
   (29, 1, .return_, 0, 0, 0, [])]]
def cd_62 : aCd := [
  [(0, 1, .iload_n 2, 0, 0, 0, []),
   (1, 3, .ifCond .ne 10, 11, 0, 0, []),
   (4, 1, .aload_n 0, 0, 0, 0, []),
   (5, 1, .iconst 1, 0, 0, 1, []),
   (6, 3, .putfield 33, 6, 3, 0, []),
   (9, 1, .iconst 0, 0, 0, 0, []),
   (10, 1, .ireturn, 0, 0, 0, []),
   (11, 1, .iload_n 1, 0, 0, 0, []),
   (12, 1, .iload_n 2, 0, 0, 0, []),
   (13, 1, .idiv, 0, 0, 0, []),
   (14, 1, .ireturn, 0, 0, 0, [])]]
def cd_63 : aCd := [
  [(0, 1, .aload_n 0, 0, 0, 0, []),
   (1, 3, .invokespecial 3, 904, 0, 0, []),
   (4, 1, .aload_n 0, 0, 0, 0, []),
   (5, 3, .new 9, 0, 0, 0, []),
   (8, 1, .dup, 0, 0, 0, []),
   (9, 3, .invokespecial 11, 0, 0, 0, []),
   (12, 3, .putfield 12, 7, 0, 0, []),
   (15, 1, .aload_n 0, 0, 0, 0, [])],
  [(16, 3, .new 9, 0, 0, 0, []),
   (19, 1, .dup, 0, 0, 0, []),
   (20, 3, .invokespecial 11, 0, 0, 0, []),
   (23, 3, .putfield 16, 7, 1, 0, []),
   (26, 1, .aload_n 0, 0, 0, 0, []),
   (27, 3, .new 9, 0, 0, 0, []),
   (30, 1, .dup, 0, 0, 0, []),
   (31, 3, .invokespecial 11, 0, 0, 0, [])],
  [(34, 3, .putfield 19, 7, 2, 0, []),
   (37, 1, .aload_n 0, 0, 0, 0, []),
   (38, 3, .new 22, 3, 0, 0, []),
   (41, 1, .dup, 0, 0, 0, []),
   (42, 3, .invokespecial 24, 37, 0, 0, []),
   (45, 3, .putfield 25, 7, 3, 0, [])],
  [(48, 1, .aload_n 0, 0, 0, 0, []),
   (49, 3, .new 29, 6, 0, 0, []),
   (52, 1, .dup, 0, 0, 0, []),
   (53, 3, .invokespecial 31, 57, 0, 0, []),
   (56, 3, .putfield 32, 7, 4, 0, []),
   (59, 1, .aload_n 0, 0, 0, 0, []),
   (60, 1, .iconst 4, 0, 0, 4, []),
   (61, 3, .anewarray 36, 24, 0, 0, [])],
  [(64, 3, .putfield 38, 7, 5, 0, []),
   (67, 1, .aload_n 0, 0, 0, 0, []),
   (68, 2, .bipush 7, 0, 0, 7, []),
   (70, 2, .newarray .int, 0, 0, 0, []),
   (72, 3, .putfield 42, 7, 6, 0, []),
   (75, 1, .aload_n 0, 0, 0, 0, []),
   (76, 2, .bipush 8, 0, 0, 8, []),
   (78, 2, .newarray .int, 0, 0, 0, [])],
  [(80, 3, .putfield 46, 7, 7, 0, []),
   (83, 1, .iconst 0, 0, 0, 0, []),
   (84, 1, .istore_n 1, 0, 0, 0, []),
   (85, 1, .iload_n 1, 0, 0, 0, []),
   (86, 1, .iconst 4, 0, 0, 4, []),
   (87, 3, .if_icmp .ge 22, 109, 0, 0, []),
   (90, 1, .aload_n 0, 0, 0, 0, []),
   (91, 3, .getfield 38, 7, 5, 0, []),
   (94, 1, .iload_n 1, 0, 0, 0, []),
   (95, 3, .new 36, 4, 0, 0, [])],
  [(98, 1, .dup, 0, 0, 0, []),
   (99, 3, .invokespecial 49, 45, 0, 0, []),
   (102, 1, .aastore, 0, 0, 0, []),
   (103, 3, .iinc 1 1, 0, 0, 1, []),
   (106, 3, .goto (-21), 85, 0, 0, []),
   (109, 1, .return_, 0, 0, 0, [])]]
def cd_64 : aCd := [
  [(0, 1, .iload_n 1, 0, 0, 0, []),
   (1, 3, .invokestatic 50, 108, 1, 0, []),
   (4, 3, .ifCond .ne 10, 14, 0, 0, []),
   (7, 1, .aload_n 0, 0, 0, 0, []),
   (8, 2, .ldc 54, 0, 0, -1000000001, []),
   (10, 3, .invokevirtual 55, 105, 701, 0, []),
   (13, 1, .ireturn, 0, 0, 0, []),
   (14, 1, .aload_n 0, 0, 0, 0, []),
   (15, 3, .getfield 12, 7, 0, 0, [])],
  [(18, 3, .getfield 59, 0, 6, 0, []),
   (21, 2, .bipush 8, 0, 0, 8, []),
   (23, 3, .if_icmp .lt 10, 33, 0, 0, []),
   (26, 1, .aload_n 0, 0, 0, 0, []),
   (27, 2, .ldc 63, 0, 0, -1000000004, []),
   (29, 3, .invokevirtual 55, 105, 701, 0, [])],
  [(32, 1, .ireturn, 0, 0, 0, []),
   (33, 1, .aload_n 0, 0, 0, 0, []),
   (34, 3, .getfield 12, 7, 0, 0, []),
   (37, 3, .getfield 59, 0, 6, 0, []),
   (40, 1, .istore_n 2, 0, 0, 0, []),
   (41, 1, .aload_n 0, 0, 0, 0, []),
   (42, 3, .getfield 12, 7, 0, 0, []),
   (45, 3, .getfield 64, 0, 0, 0, [])],
  [(48, 1, .iload_n 2, 0, 0, 0, []),
   (49, 1, .aaload, 0, 0, 0, []),
   (50, 1, .iload_n 1, 0, 0, 0, []),
   (51, 3, .invokevirtual 68, 29, 201, 0, []),
   (54, 1, .aload_n 0, 0, 0, 0, []),
   (55, 3, .getfield 12, 7, 0, 0, []),
   (58, 1, .dup, 0, 0, 0, []),
   (59, 3, .getfield 59, 0, 6, 0, []),
   (62, 1, .iconst 1, 0, 0, 1, []),
   (63, 1, .iadd, 0, 0, 0, [])],
  [(64, 3, .putfield 59, 0, 6, 0, []),
   (67, 1, .iload_n 2, 0, 0, 0, []),
   (68, 1, .ireturn, 0, 0, 0, [])]]
def cd_65 : aCd := [
  [(0, 1, .aload_n 0, 0, 0, 0, []),
   (1, 3, .getfield 12, 7, 0, 0, []),
   (4, 1, .iload_n 1, 0, 0, 0, []),
   (5, 3, .invokevirtual 74, 2, 1, 0, []),
   (8, 1, .astore_n 3, 0, 0, 0, []),
   (9, 1, .aload_n 3, 0, 0, 0, []),
   (10, 3, .ifnonnull 10, 20, 0, 0, []),
   (13, 1, .aload_n 0, 0, 0, 0, []),
   (14, 2, .ldc 54, 0, 0, -1000000001, [])],
  [(16, 3, .invokevirtual 55, 105, 701, 0, []),
   (19, 1, .ireturn, 0, 0, 0, []),
   (20, 1, .iload_n 2, 0, 0, 0, []),
   (21, 39, .tableswitch 73 0 5 #[39, 44, 49, 54, 59, 64], 94, 0, 0, [(0, 60), (1, 65), (2, 70), (3, 75), (4, 80), (5, 85)])],
  [],
  [(60, 1, .aload_n 3, 0, 0, 0, []),
   (61, 3, .getfield 78, 2, 1, 0, [])],
  [(64, 1, .ireturn, 0, 0, 0, []),
   (65, 1, .aload_n 3, 0, 0, 0, []),
   (66, 3, .getfield 81, 2, 2, 0, []),
   (69, 1, .ireturn, 0, 0, 0, []),
   (70, 1, .aload_n 3, 0, 0, 0, []),
   (71, 3, .getfield 84, 2, 3, 0, []),
   (74, 1, .ireturn, 0, 0, 0, []),
   (75, 1, .aload_n 3, 0, 0, 0, []),
   (76, 3, .getfield 87, 2, 4, 0, []),
   (79, 1, .ireturn, 0, 0, 0, [])],
  [(80, 1, .aload_n 3, 0, 0, 0, []),
   (81, 3, .getfield 90, 2, 5, 0, []),
   (84, 1, .ireturn, 0, 0, 0, []),
   (85, 1, .aload_n 0, 0, 0, 0, []),
   (86, 3, .getfield 12, 7, 0, 0, []),
   (89, 1, .aload_n 3, 0, 0, 0, []),
   (90, 3, .invokevirtual 93, 6, 1, 0, []),
   (93, 1, .ireturn, 0, 0, 0, []),
   (94, 1, .aload_n 0, 0, 0, 0, []),
   (95, 2, .ldc 54, 0, 0, -1000000001, [])],
  [(97, 3, .invokevirtual 55, 105, 701, 0, []),
   (100, 1, .ireturn, 0, 0, 0, [])]]
def cd_66 : aCd := [
  [(0, 1, .aload_n 0, 0, 0, 0, []),
   (1, 3, .getfield 12, 7, 0, 0, []),
   (4, 1, .iload_n 1, 0, 0, 0, []),
   (5, 3, .invokevirtual 74, 2, 1, 0, []),
   (8, 1, .astore_n 3, 0, 0, 0, []),
   (9, 1, .aload_n 3, 0, 0, 0, []),
   (10, 3, .ifnull 10, 20, 0, 0, []),
   (13, 1, .iload_n 2, 0, 0, 0, []),
   (14, 3, .invokestatic 50, 108, 1, 0, [])],
  [(17, 3, .ifCond .ne 10, 27, 0, 0, []),
   (20, 1, .aload_n 0, 0, 0, 0, []),
   (21, 2, .ldc 54, 0, 0, -1000000001, []),
   (23, 3, .invokevirtual 55, 105, 701, 0, []),
   (26, 1, .ireturn, 0, 0, 0, []),
   (27, 1, .aload_n 3, 0, 0, 0, []),
   (28, 3, .getfield 78, 2, 1, 0, []),
   (31, 2, .istore 4, 0, 0, 0, [])],
  [(33, 1, .aload_n 3, 0, 0, 0, []),
   (34, 1, .iload_n 2, 0, 0, 0, []),
   (35, 3, .invokevirtual 97, 30, 201, 0, []),
   (38, 2, .iload 4, 0, 0, 0, []),
   (40, 1, .ireturn, 0, 0, 0, [])]]
def cd_67 : aCd := [
  [(0, 1, .aload_n 0, 0, 0, 0, []),
   (1, 3, .getfield 12, 7, 0, 0, []),
   (4, 1, .iload_n 1, 0, 0, 0, []),
   (5, 3, .invokevirtual 74, 2, 1, 0, []),
   (8, 1, .astore_n 3, 0, 0, 0, []),
   (9, 1, .aload_n 3, 0, 0, 0, []),
   (10, 3, .ifnull 13, 23, 0, 0, []),
   (13, 1, .iload_n 2, 0, 0, 0, []),
   (14, 1, .iconst 0, 0, 0, 0, []),
   (15, 2, .bipush 6, 0, 0, 6, [])],
  [(17, 3, .invokestatic 100, 106, 3, 0, []),
   (20, 3, .ifCond .ne 10, 30, 0, 0, []),
   (23, 1, .aload_n 0, 0, 0, 0, []),
   (24, 2, .ldc 54, 0, 0, -1000000001, []),
   (26, 3, .invokevirtual 55, 105, 701, 0, []),
   (29, 1, .ireturn, 0, 0, 0, []),
   (30, 1, .aload_n 3, 0, 0, 0, []),
   (31, 1, .iload_n 2, 0, 0, 0, [])],
  [(32, 3, .invokevirtual 104, 32, 201, 0, []),
   (35, 3, .ifCond .ne 10, 45, 0, 0, []),
   (38, 1, .aload_n 0, 0, 0, 0, []),
   (39, 2, .ldc 107, 0, 0, -1000000005, []),
   (41, 3, .invokevirtual 55, 105, 701, 0, []),
   (44, 1, .ireturn, 0, 0, 0, []),
   (45, 1, .aload_n 3, 0, 0, 0, []),
   (46, 3, .getfield 81, 2, 2, 0, [])],
  [(49, 1, .ireturn, 0, 0, 0, [])]]
def cd_68 : aCd := [
  [(0, 1, .aload_n 0, 0, 0, 0, []),
   (1, 3, .getfield 12, 7, 0, 0, []),
   (4, 1, .iload_n 1, 0, 0, 0, []),
   (5, 3, .invokevirtual 74, 2, 1, 0, []),
   (8, 2, .astore 4, 0, 0, 0, []),
   (10, 2, .aload 4, 0, 0, 0, []),
   (12, 3, .ifnull 14, 26, 0, 0, []),
   (15, 1, .aload_n 0, 0, 0, 0, [])],
  [(16, 2, .aload 4, 0, 0, 0, []),
   (18, 1, .iload_n 2, 0, 0, 0, []),
   (19, 1, .iload_n 3, 0, 0, 0, []),
   (20, 3, .invokevirtual 108, 109, 703, 0, []),
   (23, 3, .ifCond .ne 10, 33, 0, 0, []),
   (26, 1, .aload_n 0, 0, 0, 0, []),
   (27, 2, .ldc 54, 0, 0, -1000000001, []),
   (29, 3, .invokevirtual 55, 105, 701, 0, [])],
  [(32, 1, .ireturn, 0, 0, 0, []),
   (33, 1, .iload_n 2, 0, 0, 0, []),
   (34, 26, .lookupswitch 58 #[(0, 26), (1, 42)], 92, 0, 0, [(0, 60), (1, 76)])],
  [(60, 2, .aload 4, 0, 0, 0, []),
   (62, 3, .getfield 84, 2, 3, 0, [])],
  [(65, 2, .istore 5, 0, 0, 0, []),
   (67, 2, .aload 4, 0, 0, 0, []),
   (69, 1, .iload_n 3, 0, 0, 0, []),
   (70, 3, .putfield 84, 2, 3, 0, []),
   (73, 2, .iload 5, 0, 0, 0, []),
   (75, 1, .ireturn, 0, 0, 0, []),
   (76, 2, .aload 4, 0, 0, 0, []),
   (78, 3, .getfield 87, 2, 4, 0, [])],
  [(81, 2, .istore 5, 0, 0, 0, []),
   (83, 2, .aload 4, 0, 0, 0, []),
   (85, 1, .iload_n 3, 0, 0, 0, []),
   (86, 3, .putfield 87, 2, 4, 0, []),
   (89, 2, .iload 5, 0, 0, 0, []),
   (91, 1, .ireturn, 0, 0, 0, []),
   (92, 2, .aload 4, 0, 0, 0, []),
   (94, 3, .getfield 90, 2, 5, 0, [])],
  [(97, 2, .istore 5, 0, 0, 0, []),
   (99, 2, .aload 4, 0, 0, 0, []),
   (101, 1, .iload_n 3, 0, 0, 0, []),
   (102, 3, .putfield 90, 2, 5, 0, []),
   (105, 2, .iload 5, 0, 0, 0, []),
   (107, 1, .ireturn, 0, 0, 0, [])]]
def cd_69 : aCd := [
  [(0, 1, .aload_n 0, 0, 0, 0, []),
   (1, 3, .getfield 12, 7, 0, 0, []),
   (4, 1, .iload_n 1, 0, 0, 0, []),
   (5, 3, .invokevirtual 74, 2, 1, 0, []),
   (8, 3, .ifnull 32, 40, 0, 0, []),
   (11, 1, .iload_n 2, 0, 0, 0, []),
   (12, 1, .iconst 0, 0, 0, 0, []),
   (13, 1, .iconst 2, 0, 0, 2, []),
   (14, 3, .invokestatic 100, 106, 3, 0, [])],
  [(17, 3, .ifCond .eq 23, 40, 0, 0, []),
   (20, 1, .iload_n 3, 0, 0, 0, []),
   (21, 1, .iconst 0, 0, 0, 0, []),
   (22, 1, .iconst 3, 0, 0, 3, []),
   (23, 3, .invokestatic 100, 106, 3, 0, []),
   (26, 3, .ifCond .eq 14, 40, 0, 0, []),
   (29, 2, .iload 4, 0, 0, 0, []),
   (31, 1, .iconst 0, 0, 0, 0, [])],
  [(32, 2, .bipush 9, 0, 0, 9, []),
   (34, 3, .invokestatic 100, 106, 3, 0, []),
   (37, 3, .ifCond .ne 10, 47, 0, 0, []),
   (40, 1, .aload_n 0, 0, 0, 0, []),
   (41, 2, .ldc 54, 0, 0, -1000000001, []),
   (43, 3, .invokevirtual 55, 105, 701, 0, []),
   (46, 1, .ireturn, 0, 0, 0, []),
   (47, 1, .aload_n 0, 0, 0, 0, [])],
  [(48, 3, .getfield 12, 7, 0, 0, []),
   (51, 3, .getfield 112, 0, 7, 0, []),
   (54, 2, .bipush 10, 0, 0, 10, []),
   (56, 3, .if_icmp .lt 10, 66, 0, 0, []),
   (59, 1, .aload_n 0, 0, 0, 0, []),
   (60, 2, .ldc 63, 0, 0, -1000000004, []),
   (62, 3, .invokevirtual 55, 105, 701, 0, [])],
  [(65, 1, .ireturn, 0, 0, 0, []),
   (66, 1, .aload_n 0, 0, 0, 0, []),
   (67, 3, .getfield 12, 7, 0, 0, []),
   (70, 3, .getfield 112, 0, 7, 0, []),
   (73, 2, .istore 5, 0, 0, 0, []),
   (75, 1, .aload_n 0, 0, 0, 0, []),
   (76, 3, .getfield 12, 7, 0, 0, []),
   (79, 3, .getfield 115, 0, 1, 0, [])],
  [(82, 2, .iload 5, 0, 0, 0, []),
   (84, 1, .aaload, 0, 0, 0, []),
   (85, 1, .iload_n 1, 0, 0, 0, []),
   (86, 1, .iload_n 2, 0, 0, 0, []),
   (87, 1, .iload_n 3, 0, 0, 0, []),
   (88, 2, .iload 4, 0, 0, 0, []),
   (90, 3, .invokevirtual 119, 51, 504, 0, []),
   (93, 1, .aload_n 0, 0, 0, 0, []),
   (94, 3, .getfield 12, 7, 0, 0, [])],
  [(97, 1, .dup, 0, 0, 0, []),
   (98, 3, .getfield 112, 0, 7, 0, []),
   (101, 1, .iconst 1, 0, 0, 1, []),
   (102, 1, .iadd, 0, 0, 0, []),
   (103, 3, .putfield 112, 0, 7, 0, []),
   (106, 2, .iload 5, 0, 0, 0, []),
   (108, 1, .ireturn, 0, 0, 0, [])]]
def cd_70 : aCd := [
  [(0, 1, .aload_n 0, 0, 0, 0, []),
   (1, 3, .getfield 12, 7, 0, 0, []),
   (4, 1, .iload_n 1, 0, 0, 0, []),
   (5, 3, .invokevirtual 124, 3, 1, 0, []),
   (8, 1, .astore_n 3, 0, 0, 0, []),
   (9, 1, .aload_n 3, 0, 0, 0, []),
   (10, 3, .ifnonnull 10, 20, 0, 0, []),
   (13, 1, .aload_n 0, 0, 0, 0, []),
   (14, 2, .ldc 54, 0, 0, -1000000001, [])],
  [(16, 3, .invokevirtual 55, 105, 701, 0, []),
   (19, 1, .ireturn, 0, 0, 0, []),
   (20, 1, .iload_n 2, 0, 0, 0, []),
   (21, 47, .tableswitch 99 0 7 #[47, 52, 57, 62, 67, 80, 85, 90], 120, 0, 0, [(0, 68), (1, 73), (2, 78), (3, 83), (4, 88), (5, 101), (6, 106), (7, 111)])],
  [],
  [],
  [(68, 1, .aload_n 3, 0, 0, 0, []),
   (69, 3, .getfield 128, 5, 0, 0, []),
   (72, 1, .ireturn, 0, 0, 0, []),
   (73, 1, .aload_n 3, 0, 0, 0, []),
   (74, 3, .getfield 131, 5, 1, 0, []),
   (77, 1, .ireturn, 0, 0, 0, []),
   (78, 1, .aload_n 3, 0, 0, 0, []),
   (79, 3, .getfield 134, 5, 2, 0, [])],
  [(82, 1, .ireturn, 0, 0, 0, []),
   (83, 1, .aload_n 3, 0, 0, 0, []),
   (84, 3, .getfield 137, 5, 3, 0, []),
   (87, 1, .ireturn, 0, 0, 0, []),
   (88, 1, .aload_n 3, 0, 0, 0, []),
   (89, 3, .getfield 140, 5, 5, 0, []),
   (92, 3, .ifCond .eq 7, 99, 0, 0, []),
   (95, 1, .iconst 1, 0, 0, 1, [])],
  [(96, 3, .goto 4, 100, 0, 0, []),
   (99, 1, .iconst 0, 0, 0, 0, []),
   (100, 1, .ireturn, 0, 0, 0, []),
   (101, 1, .aload_n 3, 0, 0, 0, []),
   (102, 3, .getfield 144, 5, 6, 0, []),
   (105, 1, .ireturn, 0, 0, 0, []),
   (106, 1, .aload_n 3, 0, 0, 0, []),
   (107, 3, .getfield 147, 5, 4, 0, []),
   (110, 1, .ireturn, 0, 0, 0, []),
   (111, 1, .aload_n 0, 0, 0, 0, [])],
  [(112, 3, .getfield 12, 7, 0, 0, []),
   (115, 1, .aload_n 3, 0, 0, 0, []),
   (116, 3, .invokevirtual 150, 7, 1, 0, []),
   (119, 1, .ireturn, 0, 0, 0, []),
   (120, 1, .aload_n 0, 0, 0, 0, []),
   (121, 2, .ldc 54, 0, 0, -1000000001, []),
   (123, 3, .invokevirtual 55, 105, 701, 0, []),
   (126, 1, .ireturn, 0, 0, 0, [])]]
def cd_71 : aCd := [
  [(0, 1, .aload_n 0, 0, 0, 0, []),
   (1, 3, .getfield 12, 7, 0, 0, []),
   (4, 1, .iload_n 1, 0, 0, 0, []),
   (5, 3, .invokevirtual 124, 3, 1, 0, []),
   (8, 2, .astore 4, 0, 0, 0, []),
   (10, 2, .aload 4, 0, 0, 0, []),
   (12, 3, .ifnull 30, 42, 0, 0, []),
   (15, 1, .iload_n 2, 0, 0, 0, [])],
  [(16, 1, .iconst 0, 0, 0, 0, []),
   (17, 3, .getstatic 154, 1001, 0, 0, []),
   (20, 1, .arraylength, 0, 0, 0, []),
   (21, 1, .iconst 1, 0, 0, 1, []),
   (22, 1, .isub, 0, 0, 0, []),
   (23, 3, .invokestatic 100, 106, 3, 0, []),
   (26, 3, .ifCond .eq 16, 42, 0, 0, []),
   (29, 1, .iload_n 3, 0, 0, 0, []),
   (30, 1, .iconst 0, 0, 0, 0, []),
   (31, 3, .getstatic 154, 1001, 0, 0, [])],
  [(34, 1, .iload_n 2, 0, 0, 0, []),
   (35, 1, .iaload, 0, 0, 0, []),
   (36, 3, .invokestatic 100, 106, 3, 0, []),
   (39, 3, .ifCond .ne 10, 49, 0, 0, []),
   (42, 1, .aload_n 0, 0, 0, 0, []),
   (43, 2, .ldc 54, 0, 0, -1000000001, []),
   (45, 3, .invokevirtual 55, 105, 701, 0, [])],
  [(48, 1, .ireturn, 0, 0, 0, []),
   (49, 2, .aload 4, 0, 0, 0, []),
   (51, 3, .getfield 140, 5, 5, 0, []),
   (54, 3, .ifCond .ne 10, 64, 0, 0, []),
   (57, 1, .aload_n 0, 0, 0, 0, []),
   (58, 2, .ldc 157, 0, 0, -1000000003, []),
   (60, 3, .invokevirtual 55, 105, 701, 0, []),
   (63, 1, .ireturn, 0, 0, 0, [])],
  [(64, 1, .iload_n 2, 0, 0, 0, []),
   (65, 27, .tableswitch 75 0 2 #[27, 43, 59], 140, 0, 0, [(0, 92), (1, 108), (2, 124)])],
  [(92, 2, .aload 4, 0, 0, 0, []),
   (94, 3, .getfield 131, 5, 1, 0, [])],
  [(97, 2, .istore 5, 0, 0, 0, []),
   (99, 2, .aload 4, 0, 0, 0, []),
   (101, 1, .iload_n 3, 0, 0, 0, []),
   (102, 3, .putfield 131, 5, 1, 0, []),
   (105, 2, .iload 5, 0, 0, 0, []),
   (107, 1, .ireturn, 0, 0, 0, []),
   (108, 2, .aload 4, 0, 0, 0, []),
   (110, 3, .getfield 134, 5, 2, 0, [])],
  [(113, 2, .istore 5, 0, 0, 0, []),
   (115, 2, .aload 4, 0, 0, 0, []),
   (117, 1, .iload_n 3, 0, 0, 0, []),
   (118, 3, .putfield 134, 5, 2, 0, []),
   (121, 2, .iload 5, 0, 0, 0, []),
   (123, 1, .ireturn, 0, 0, 0, []),
   (124, 2, .aload 4, 0, 0, 0, []),
   (126, 3, .getfield 137, 5, 3, 0, [])],
  [(129, 2, .istore 5, 0, 0, 0, []),
   (131, 2, .aload 4, 0, 0, 0, []),
   (133, 1, .iload_n 3, 0, 0, 0, []),
   (134, 3, .putfield 137, 5, 3, 0, []),
   (137, 2, .iload 5, 0, 0, 0, []),
   (139, 1, .ireturn, 0, 0, 0, []),
   (140, 2, .aload 4, 0, 0, 0, []),
   (142, 3, .getfield 147, 5, 4, 0, [])],
  [(145, 2, .istore 5, 0, 0, 0, []),
   (147, 2, .aload 4, 0, 0, 0, []),
   (149, 1, .iload_n 3, 0, 0, 0, []),
   (150, 3, .putfield 147, 5, 4, 0, []),
   (153, 2, .iload 5, 0, 0, 0, []),
   (155, 1, .ireturn, 0, 0, 0, [])]]
def cd_72 : aCd := [
  [(0, 1, .aload_n 0, 0, 0, 0, []),
   (1, 3, .getfield 12, 7, 0, 0, []),
   (4, 1, .iload_n 1, 0, 0, 0, []),
   (5, 3, .invokevirtual 124, 3, 1, 0, []),
   (8, 1, .astore_n 2, 0, 0, 0, []),
   (9, 1, .aload_n 2, 0, 0, 0, []),
   (10, 3, .ifnonnull 10, 20, 0, 0, []),
   (13, 1, .aload_n 0, 0, 0, 0, []),
   (14, 2, .ldc 54, 0, 0, -1000000001, [])],
  [(16, 3, .invokevirtual 55, 105, 701, 0, []),
   (19, 1, .ireturn, 0, 0, 0, []),
   (20, 1, .aload_n 2, 0, 0, 0, []),
   (21, 3, .getfield 140, 5, 5, 0, []),
   (24, 3, .ifCond .eq 10, 34, 0, 0, []),
   (27, 1, .aload_n 0, 0, 0, 0, []),
   (28, 2, .ldc 157, 0, 0, -1000000003, []),
   (30, 3, .invokevirtual 55, 105, 701, 0, [])],
  [(33, 1, .ireturn, 0, 0, 0, []),
   (34, 1, .aload_n 2, 0, 0, 0, []),
   (35, 3, .invokevirtual 158, 55, 500, 0, []),
   (38, 1, .aload_n 0, 0, 0, 0, []),
   (39, 3, .getfield 12, 7, 0, 0, []),
   (42, 3, .invokevirtual 161, 5, 0, 0, []),
   (45, 1, .ireturn, 0, 0, 0, [])]]
def cd_73 : aCd := [
  [(0, 1, .iload_n 3, 0, 0, 0, []),
   (1, 1, .iconst 1, 0, 0, 1, []),
   (2, 2, .bipush 8, 0, 0, 8, []),
   (4, 3, .invokestatic 100, 106, 3, 0, []),
   (7, 3, .ifCond .ne 10, 17, 0, 0, []),
   (10, 1, .aload_n 0, 0, 0, 0, []),
   (11, 2, .ldc 54, 0, 0, -1000000001, []),
   (13, 3, .invokevirtual 55, 105, 701, 0, [])],
  [(16, 1, .ireturn, 0, 0, 0, []),
   (17, 1, .aload_n 0, 0, 0, 0, []),
   (18, 3, .getfield 12, 7, 0, 0, []),
   (21, 3, .getfield 164, 0, 8, 0, []),
   (24, 1, .iload_n 3, 0, 0, 0, []),
   (25, 1, .iadd, 0, 0, 0, []),
   (26, 2, .bipush 60, 0, 0, 60, []),
   (28, 3, .if_icmp .le 10, 38, 0, 0, []),
   (31, 1, .aload_n 0, 0, 0, 0, [])],
  [(32, 2, .ldc 63, 0, 0, -1000000004, []),
   (34, 3, .invokevirtual 55, 105, 701, 0, []),
   (37, 1, .ireturn, 0, 0, 0, []),
   (38, 1, .iconst 0, 0, 0, 0, []),
   (39, 2, .istore 4, 0, 0, 0, []),
   (41, 2, .iload 4, 0, 0, 0, []),
   (43, 1, .iload_n 3, 0, 0, 0, []),
   (44, 3, .if_icmp .ge 46, 90, 0, 0, []),
   (47, 1, .aload_n 0, 0, 0, 0, [])],
  [(48, 3, .getfield 12, 7, 0, 0, []),
   (51, 3, .getfield 167, 0, 4, 0, []),
   (54, 1, .aload_n 0, 0, 0, 0, []),
   (55, 3, .getfield 12, 7, 0, 0, []),
   (58, 3, .getfield 164, 0, 8, 0, []),
   (61, 1, .lload_n 1, 0, 0, 0, []),
   (62, 2, .bipush 8, 0, 0, 8, [])],
  [(64, 2, .iload 4, 0, 0, 0, []),
   (66, 1, .imul, 0, 0, 0, []),
   (67, 1, .lushr, 0, 0, 0, []),
   (68, 1, .l2i, 0, 0, 0, []),
   (69, 1, .i2b, 0, 0, 0, []),
   (70, 1, .bastore, 0, 0, 0, []),
   (71, 1, .aload_n 0, 0, 0, 0, []),
   (72, 3, .getfield 12, 7, 0, 0, []),
   (75, 1, .dup, 0, 0, 0, []),
   (76, 3, .getfield 164, 0, 8, 0, []),
   (79, 1, .iconst 1, 0, 0, 1, [])],
  [(80, 1, .iadd, 0, 0, 0, []),
   (81, 3, .putfield 164, 0, 8, 0, []),
   (84, 3, .iinc 4 1, 0, 0, 1, []),
   (87, 3, .goto (-46), 41, 0, 0, []),
   (90, 1, .aload_n 0, 0, 0, 0, []),
   (91, 3, .getfield 12, 7, 0, 0, []),
   (94, 3, .getfield 164, 0, 8, 0, [])],
  [(97, 1, .ireturn, 0, 0, 0, [])]]
def cd_74 : aCd := [
  [(0, 1, .iload_n 1, 0, 0, 0, []),
   (1, 3, .invokestatic 171, 107, 1, 0, []),
   (4, 3, .ifCond .ne 10, 14, 0, 0, []),
   (7, 1, .aload_n 0, 0, 0, 0, []),
   (8, 2, .ldc 54, 0, 0, -1000000001, []),
   (10, 3, .invokevirtual 55, 105, 701, 0, []),
   (13, 1, .ireturn, 0, 0, 0, []),
   (14, 1, .aload_n 0, 0, 0, 0, []),
   (15, 3, .getfield 25, 7, 3, 0, [])],
  [(18, 1, .aload_n 0, 0, 0, 0, []),
   (19, 3, .getfield 12, 7, 0, 0, []),
   (22, 3, .getfield 167, 0, 4, 0, []),
   (25, 1, .aload_n 0, 0, 0, 0, []),
   (26, 3, .getfield 12, 7, 0, 0, []),
   (29, 3, .getfield 164, 0, 8, 0, [])],
  [(32, 1, .iload_n 1, 0, 0, 0, []),
   (33, 3, .invokevirtual 174, 38, 303, 0, []),
   (36, 1, .istore_n 2, 0, 0, 0, []),
   (37, 1, .aload_n 0, 0, 0, 0, []),
   (38, 3, .getfield 12, 7, 0, 0, []),
   (41, 1, .iconst 0, 0, 0, 0, []),
   (42, 3, .putfield 164, 0, 8, 0, []),
   (45, 1, .iload_n 2, 0, 0, 0, []),
   (46, 1, .iconst (-1), 0, 0, -1, []),
   (47, 3, .if_icmp .eq 8, 55, 0, 0, [])],
  [(50, 2, .bipush (-10), 0, 0, -10, []),
   (52, 1, .iload_n 2, 0, 0, 0, []),
   (53, 1, .isub, 0, 0, 0, []),
   (54, 1, .ireturn, 0, 0, 0, []),
   (55, 1, .aload_n 0, 0, 0, 0, []),
   (56, 3, .getfield 12, 7, 0, 0, []),
   (59, 1, .iload_n 1, 0, 0, 0, []),
   (60, 3, .invokevirtual 178, 4, 1, 0, []),
   (63, 1, .aload_n 0, 0, 0, 0, [])],
  [(64, 3, .getfield 25, 7, 3, 0, []),
   (67, 3, .getfield 182, 3, 0, 0, []),
   (70, 3, .invokevirtual 186, 22, 101, 0, []),
   (73, 1, .iconst 1, 0, 0, 1, []),
   (74, 1, .ireturn, 0, 0, 0, [])]]
def cd_75 : aCd := [
  [(0, 1, .iload_n 1, 0, 0, 0, []),
   (1, 3, .invokestatic 171, 107, 1, 0, []),
   (4, 3, .ifCond .ne 10, 14, 0, 0, []),
   (7, 1, .aload_n 0, 0, 0, 0, []),
   (8, 2, .ldc 54, 0, 0, -1000000001, []),
   (10, 3, .invokevirtual 55, 105, 701, 0, []),
   (13, 1, .ireturn, 0, 0, 0, []),
   (14, 1, .aload_n 0, 0, 0, 0, []),
   (15, 3, .getfield 12, 7, 0, 0, [])],
  [(18, 1, .iload_n 1, 0, 0, 0, []),
   (19, 3, .invokevirtual 178, 4, 1, 0, []),
   (22, 1, .astore_n 2, 0, 0, 0, []),
   (23, 1, .aload_n 2, 0, 0, 0, []),
   (24, 3, .invokevirtual 192, 21, 100, 0, []),
   (27, 3, .ifCond .eq 7, 34, 0, 0, []),
   (30, 1, .iconst 1, 0, 0, 1, []),
   (31, 3, .goto 4, 35, 0, 0, [])],
  [(34, 1, .iconst 0, 0, 0, 0, []),
   (35, 1, .istore_n 3, 0, 0, 0, []),
   (36, 1, .aload_n 2, 0, 0, 0, []),
   (37, 3, .invokevirtual 196, 20, 100, 0, []),
   (40, 1, .iload_n 3, 0, 0, 0, []),
   (41, 1, .ireturn, 0, 0, 0, [])]]
def cd_76 : aCd := [
  [(0, 1, .iload_n 1, 0, 0, 0, []),
   (1, 3, .invokestatic 171, 107, 1, 0, []),
   (4, 3, .ifCond .ne 10, 14, 0, 0, []),
   (7, 1, .aload_n 0, 0, 0, 0, []),
   (8, 2, .ldc 54, 0, 0, -1000000001, []),
   (10, 3, .invokevirtual 55, 105, 701, 0, []),
   (13, 1, .ireturn, 0, 0, 0, []),
   (14, 1, .aload_n 0, 0, 0, 0, []),
   (15, 3, .getfield 12, 7, 0, 0, [])],
  [(18, 1, .iload_n 1, 0, 0, 0, []),
   (19, 3, .invokevirtual 178, 4, 1, 0, []),
   (22, 1, .iload_n 2, 0, 0, 0, []),
   (23, 1, .iload_n 3, 0, 0, 0, []),
   (24, 2, .iload 4, 0, 0, 0, []),
   (26, 3, .invokevirtual 199, 24, 103, 0, []),
   (29, 1, .ireturn, 0, 0, 0, [])]]
def cd_77 : aCd := [
  [(0, 1, .aload_n 0, 0, 0, 0, []),
   (1, 3, .getfield 12, 7, 0, 0, []),
   (4, 1, .iload_n 1, 0, 0, 0, []),
   (5, 3, .invokevirtual 74, 2, 1, 0, []),
   (8, 1, .astore_n 3, 0, 0, 0, []),
   (9, 1, .aload_n 0, 0, 0, 0, []),
   (10, 3, .getfield 12, 7, 0, 0, []),
   (13, 1, .iload_n 2, 0, 0, 0, []),
   (14, 3, .invokevirtual 124, 3, 1, 0, [])],
  [(17, 2, .astore 4, 0, 0, 0, []),
   (19, 1, .aload_n 3, 0, 0, 0, []),
   (20, 3, .ifnull 8, 28, 0, 0, []),
   (23, 2, .aload 4, 0, 0, 0, []),
   (25, 3, .ifnonnull 10, 35, 0, 0, []),
   (28, 1, .aload_n 0, 0, 0, 0, []),
   (29, 2, .ldc 54, 0, 0, -1000000001, []),
   (31, 3, .invokevirtual 55, 105, 701, 0, [])],
  [(34, 1, .ireturn, 0, 0, 0, []),
   (35, 1, .aload_n 3, 0, 0, 0, []),
   (36, 2, .aload 4, 0, 0, 0, []),
   (38, 1, .aload_n 0, 0, 0, 0, []),
   (39, 3, .getfield 12, 7, 0, 0, []),
   (42, 2, .aload 4, 0, 0, 0, []),
   (44, 3, .invokevirtual 150, 7, 1, 0, []),
   (47, 3, .invokevirtual 203, 34, 202, 0, [])],
  [(50, 1, .ireturn, 0, 0, 0, [])]]
def cd_78 : aCd := [
  [(0, 1, .aload_n 0, 0, 0, 0, []),
   (1, 3, .getfield 12, 7, 0, 0, []),
   (4, 1, .iload_n 1, 0, 0, 0, []),
   (5, 3, .invokevirtual 124, 3, 1, 0, []),
   (8, 1, .astore_n 3, 0, 0, 0, []),
   (9, 1, .aload_n 3, 0, 0, 0, []),
   (10, 3, .ifnull 12, 22, 0, 0, []),
   (13, 1, .iload_n 2, 0, 0, 0, []),
   (14, 1, .iconst 0, 0, 0, 0, []),
   (15, 1, .iconst 1, 0, 0, 1, [])],
  [(16, 3, .invokestatic 100, 106, 3, 0, []),
   (19, 3, .ifCond .ne 10, 29, 0, 0, []),
   (22, 1, .aload_n 0, 0, 0, 0, []),
   (23, 2, .ldc 54, 0, 0, -1000000001, []),
   (25, 3, .invokevirtual 55, 105, 701, 0, []),
   (28, 1, .ireturn, 0, 0, 0, []),
   (29, 1, .aload_n 0, 0, 0, 0, []),
   (30, 3, .getfield 12, 7, 0, 0, [])],
  [(33, 3, .getfield 207, 0, 3, 0, []),
   (36, 1, .aload_n 3, 0, 0, 0, []),
   (37, 3, .getfield 131, 5, 1, 0, []),
   (40, 1, .iload_n 2, 0, 0, 0, []),
   (41, 1, .aload_n 3, 0, 0, 0, []),
   (42, 3, .getfield 134, 5, 2, 0, []),
   (45, 3, .invokevirtual 199, 24, 103, 0, [])],
  [(48, 1, .ireturn, 0, 0, 0, [])]]
def cd_79 : aCd := [
  [(0, 1, .aload_n 0, 0, 0, 0, []),
   (1, 3, .getfield 12, 7, 0, 0, []),
   (4, 1, .iload_n 1, 0, 0, 0, []),
   (5, 3, .invokevirtual 74, 2, 1, 0, []),
   (8, 1, .astore_n 3, 0, 0, 0, []),
   (9, 1, .aload_n 3, 0, 0, 0, []),
   (10, 3, .ifnull 12, 22, 0, 0, []),
   (13, 1, .iload_n 2, 0, 0, 0, []),
   (14, 1, .iconst 0, 0, 0, 0, []),
   (15, 1, .iconst 1, 0, 0, 1, [])],
  [(16, 3, .invokestatic 100, 106, 3, 0, []),
   (19, 3, .ifCond .ne 10, 29, 0, 0, []),
   (22, 1, .aload_n 0, 0, 0, 0, []),
   (23, 2, .ldc 54, 0, 0, -1000000001, []),
   (25, 3, .invokevirtual 55, 105, 701, 0, []),
   (28, 1, .ireturn, 0, 0, 0, []),
   (29, 1, .aload_n 0, 0, 0, 0, []),
   (30, 3, .getfield 12, 7, 0, 0, [])],
  [(33, 1, .aload_n 3, 0, 0, 0, []),
   (34, 1, .iload_n 2, 0, 0, 0, []),
   (35, 3, .invokevirtual 210, 13, 2, 0, []),
   (38, 1, .ireturn, 0, 0, 0, [])]]
def cd_80 : aCd := [
  [(0, 1, .iload_n 1, 0, 0, 0, []),
   (1, 1, .iconst 1, 0, 0, 1, []),
   (2, 2, .bipush 40, 0, 0, 40, []),
   (4, 3, .invokestatic 100, 106, 3, 0, []),
   (7, 3, .ifCond .ne 10, 17, 0, 0, []),
   (10, 1, .aload_n 0, 0, 0, 0, []),
   (11, 2, .ldc 54, 0, 0, -1000000001, []),
   (13, 3, .invokevirtual 55, 105, 701, 0, [])],
  [(16, 1, .ireturn, 0, 0, 0, []),
   (17, 1, .aload_n 0, 0, 0, 0, []),
   (18, 3, .getfield 12, 7, 0, 0, []),
   (21, 3, .getfield 214, 0, 10, 0, []),
   (24, 1, .iload_n 1, 0, 0, 0, []),
   (25, 1, .iadd, 0, 0, 0, []),
   (26, 3, .sipush 9999, 0, 0, 9999, []),
   (29, 3, .if_icmp .le 10, 39, 0, 0, [])],
  [(32, 1, .aload_n 0, 0, 0, 0, []),
   (33, 2, .ldc 157, 0, 0, -1000000003, []),
   (35, 3, .invokevirtual 55, 105, 701, 0, []),
   (38, 1, .ireturn, 0, 0, 0, []),
   (39, 1, .iconst 0, 0, 0, 0, []),
   (40, 1, .istore_n 2, 0, 0, 0, []),
   (41, 1, .iload_n 2, 0, 0, 0, []),
   (42, 1, .iload_n 1, 0, 0, 0, []),
   (43, 3, .if_icmp .ge 17, 60, 0, 0, []),
   (46, 1, .aload_n 0, 0, 0, 0, []),
   (47, 3, .getfield 12, 7, 0, 0, [])],
  [(50, 3, .invokevirtual 217, 17, 0, 0, []),
   (53, 1, .pop, 0, 0, 0, []),
   (54, 3, .iinc 2 1, 0, 0, 1, []),
   (57, 3, .goto (-16), 41, 0, 0, []),
   (60, 1, .aload_n 0, 0, 0, 0, []),
   (61, 3, .getfield 12, 7, 0, 0, [])],
  [(64, 3, .getfield 220, 0, 11, 0, []),
   (67, 1, .ireturn, 0, 0, 0, [])]]
def cd_81 : aCd := [
  [(0, 1, .iload_n 1, 0, 0, 0, []),
   (1, 1, .iconst 0, 0, 0, 0, []),
   (2, 2, .bipush 9, 0, 0, 9, []),
   (4, 3, .invokestatic 100, 106, 3, 0, []),
   (7, 3, .ifCond .ne 10, 17, 0, 0, []),
   (10, 1, .aload_n 0, 0, 0, 0, []),
   (11, 2, .ldc 54, 0, 0, -1000000001, []),
   (13, 3, .invokevirtual 55, 105, 701, 0, [])],
  [(16, 1, .ireturn, 0, 0, 0, []),
   (17, 1, .aload_n 0, 0, 0, 0, []),
   (18, 3, .getfield 12, 7, 0, 0, []),
   (21, 1, .iload_n 1, 0, 0, 0, []),
   (22, 3, .invokevirtual 223, 15, 1, 0, []),
   (25, 1, .istore_n 2, 0, 0, 0, []),
   (26, 1, .aload_n 0, 0, 0, 0, []),
   (27, 3, .getfield 12, 7, 0, 0, []),
   (30, 3, .sipush 9999, 0, 0, 9999, [])],
  [(33, 1, .aload_n 0, 0, 0, 0, []),
   (34, 3, .getfield 12, 7, 0, 0, []),
   (37, 3, .getfield 226, 0, 13, 0, []),
   (40, 1, .iload_n 2, 0, 0, 0, []),
   (41, 1, .iadd, 0, 0, 0, []),
   (42, 3, .invokestatic 229, 901, 0, 0, []),
   (45, 3, .putfield 226, 0, 13, 0, [])],
  [(48, 1, .iload_n 2, 0, 0, 0, []),
   (49, 1, .ireturn, 0, 0, 0, [])]]
def cd_82 : aCd := [
  [(0, 1, .aload_n 0, 0, 0, 0, []),
   (1, 3, .getfield 12, 7, 0, 0, []),
   (4, 3, .getfield 235, 0, 14, 0, []),
   (7, 1, .istore_n 2, 0, 0, 0, []),
   (8, 1, .aload_n 0, 0, 0, 0, []),
   (9, 3, .getfield 12, 7, 0, 0, []),
   (12, 1, .iload_n 1, 0, 0, 0, []),
   (13, 3, .putfield 235, 0, 14, 0, [])],
  [(16, 1, .iload_n 2, 0, 0, 0, []),
   (17, 1, .ireturn, 0, 0, 0, [])]]
def cd_83 : aCd := [
  [(0, 1, .aload_n 0, 0, 0, 0, []),
   (1, 3, .getfield 12, 7, 0, 0, []),
   (4, 1, .iload_n 1, 0, 0, 0, []),
   (5, 3, .invokevirtual 74, 2, 1, 0, []),
   (8, 2, .astore 4, 0, 0, 0, []),
   (10, 2, .aload 4, 0, 0, 0, []),
   (12, 3, .ifnull 21, 33, 0, 0, []),
   (15, 1, .iload_n 2, 0, 0, 0, [])],
  [(16, 1, .iconst 0, 0, 0, 0, []),
   (17, 1, .iconst 1, 0, 0, 1, []),
   (18, 3, .invokestatic 100, 106, 3, 0, []),
   (21, 3, .ifCond .eq 12, 33, 0, 0, []),
   (24, 1, .iload_n 3, 0, 0, 0, []),
   (25, 1, .iconst 0, 0, 0, 0, []),
   (26, 1, .iconst 1, 0, 0, 1, []),
   (27, 3, .invokestatic 100, 106, 3, 0, []),
   (30, 3, .ifCond .ne 10, 40, 0, 0, [])],
  [(33, 1, .aload_n 0, 0, 0, 0, []),
   (34, 2, .ldc 54, 0, 0, -1000000001, []),
   (36, 3, .invokevirtual 55, 105, 701, 0, []),
   (39, 1, .ireturn, 0, 0, 0, []),
   (40, 1, .aload_n 0, 0, 0, 0, []),
   (41, 3, .getfield 12, 7, 0, 0, []),
   (44, 2, .aload 4, 0, 0, 0, []),
   (46, 1, .iload_n 2, 0, 0, 0, []),
   (47, 3, .invokevirtual 238, 9, 2, 0, [])],
  [(50, 2, .istore 5, 0, 0, 0, []),
   (52, 1, .iload_n 3, 0, 0, 0, []),
   (53, 3, .ifCond .ne 6, 59, 0, 0, []),
   (56, 2, .iload 5, 0, 0, 0, []),
   (58, 1, .ireturn, 0, 0, 0, []),
   (59, 1, .aload_n 0, 0, 0, 0, []),
   (60, 3, .getfield 12, 7, 0, 0, []),
   (63, 2, .iload 5, 0, 0, 0, [])],
  [(65, 3, .invokevirtual 124, 3, 1, 0, []),
   (68, 2, .astore 6, 0, 0, 0, []),
   (70, 2, .aload 6, 0, 0, 0, []),
   (72, 3, .ifnonnull 7, 79, 0, 0, []),
   (75, 1, .iconst 0, 0, 0, 0, []),
   (76, 3, .goto 15, 91, 0, 0, []),
   (79, 1, .aload_n 0, 0, 0, 0, [])],
  [(80, 3, .getfield 12, 7, 0, 0, []),
   (83, 2, .aload 4, 0, 0, 0, []),
   (85, 2, .aload 6, 0, 0, 0, []),
   (87, 1, .iload_n 2, 0, 0, 0, []),
   (88, 3, .invokevirtual 241, 8, 3, 0, []),
   (91, 1, .ireturn, 0, 0, 0, [])]]
def cd_84 : aCd := [
  [(0, 1, .aload_n 0, 0, 0, 0, []),
   (1, 3, .getfield 12, 7, 0, 0, []),
   (4, 1, .iload_n 1, 0, 0, 0, []),
   (5, 3, .invokevirtual 124, 3, 1, 0, []),
   (8, 3, .ifnull 12, 20, 0, 0, []),
   (11, 1, .iload_n 2, 0, 0, 0, []),
   (12, 1, .iconst 0, 0, 0, 0, []),
   (13, 1, .iconst 1, 0, 0, 1, []),
   (14, 3, .invokestatic 100, 106, 3, 0, [])],
  [(17, 3, .ifCond .ne 10, 27, 0, 0, []),
   (20, 1, .aload_n 0, 0, 0, 0, []),
   (21, 2, .ldc 54, 0, 0, -1000000001, []),
   (23, 3, .invokevirtual 55, 105, 701, 0, []),
   (26, 1, .ireturn, 0, 0, 0, []),
   (27, 1, .aload_n 0, 0, 0, 0, []),
   (28, 3, .getfield 12, 7, 0, 0, []),
   (31, 1, .iload_n 1, 0, 0, 0, [])],
  [(32, 1, .iload_n 2, 0, 0, 0, []),
   (33, 3, .invokevirtual 245, 10, 2, 0, []),
   (36, 1, .ireturn, 0, 0, 0, [])]]
def cd_85 : aCd := [
  [(0, 1, .aload_n 0, 0, 0, 0, []),
   (1, 3, .getfield 12, 7, 0, 0, []),
   (4, 1, .iload_n 1, 0, 0, 0, []),
   (5, 3, .invokevirtual 124, 3, 1, 0, []),
   (8, 1, .astore_n 2, 0, 0, 0, []),
   (9, 1, .aload_n 2, 0, 0, 0, []),
   (10, 3, .ifnonnull 10, 20, 0, 0, []),
   (13, 1, .aload_n 0, 0, 0, 0, []),
   (14, 2, .ldc 54, 0, 0, -1000000001, [])],
  [(16, 3, .invokevirtual 55, 105, 701, 0, []),
   (19, 1, .ireturn, 0, 0, 0, []),
   (20, 1, .aload_n 2, 0, 0, 0, []),
   (21, 3, .getfield 140, 5, 5, 0, []),
   (24, 3, .ifCond .ne 10, 34, 0, 0, []),
   (27, 1, .aload_n 0, 0, 0, 0, []),
   (28, 2, .ldc 157, 0, 0, -1000000003, []),
   (30, 3, .invokevirtual 55, 105, 701, 0, [])],
  [(33, 1, .ireturn, 0, 0, 0, []),
   (34, 1, .aload_n 0, 0, 0, 0, []),
   (35, 3, .getfield 19, 7, 2, 0, []),
   (38, 1, .aload_n 0, 0, 0, 0, []),
   (39, 3, .getfield 12, 7, 0, 0, []),
   (42, 3, .invokevirtual 248, 1, 1, 0, []),
   (45, 1, .iconst 0, 0, 0, 0, []),
   (46, 1, .istore_n 3, 0, 0, 0, []),
   (47, 2, .bipush 17, 0, 0, 17, [])],
  [(49, 2, .istore 4, 0, 0, 0, []),
   (51, 1, .iconst 0, 0, 0, 0, []),
   (52, 2, .istore 5, 0, 0, 0, []),
   (54, 2, .iload 5, 0, 0, 0, []),
   (56, 1, .iconst 2, 0, 0, 2, []),
   (57, 3, .if_icmp .gt 52, 109, 0, 0, []),
   (60, 1, .aload_n 0, 0, 0, 0, []),
   (61, 3, .getfield 19, 7, 2, 0, [])],
  [(64, 3, .getfield 115, 0, 1, 0, []),
   (67, 1, .iload_n 1, 0, 0, 0, []),
   (68, 1, .aaload, 0, 0, 0, []),
   (69, 2, .iload 5, 0, 0, 0, []),
   (71, 3, .putfield 131, 5, 1, 0, []),
   (74, 1, .aload_n 0, 0, 0, 0, []),
   (75, 1, .iload_n 1, 0, 0, 0, []),
   (76, 1, .iconst 0, 0, 0, 0, []),
   (77, 3, .invokevirtual 251, 111, 702, 0, [])],
  [(80, 1, .aload_n 0, 0, 0, 0, []),
   (81, 1, .iload_n 1, 0, 0, 0, []),
   (82, 1, .iconst 1, 0, 0, 1, []),
   (83, 3, .invokevirtual 251, 111, 702, 0, []),
   (86, 1, .iadd, 0, 0, 0, []),
   (87, 2, .istore 6, 0, 0, 0, []),
   (89, 2, .iload 6, 0, 0, 0, []),
   (91, 2, .iload 4, 0, 0, 0, []),
   (93, 3, .if_icmp .ge 10, 103, 0, 0, [])],
  [(96, 2, .iload 6, 0, 0, 0, []),
   (98, 2, .istore 4, 0, 0, 0, []),
   (100, 2, .iload 5, 0, 0, 0, []),
   (102, 1, .istore_n 3, 0, 0, 0, []),
   (103, 3, .iinc 5 1, 0, 0, 1, []),
   (106, 3, .goto (-52), 54, 0, 0, []),
   (109, 1, .iload_n 3, 0, 0, 0, []),
   (110, 1, .ireturn, 0, 0, 0, [])]]
def cd_86 : aCd := [
  [(0, 1, .iload_n 1, 0, 0, 0, []),
   (1, 1, .iconst 0, 0, 0, 0, []),
   (2, 1, .iconst 1, 0, 0, 1, []),
   (3, 3, .invokestatic 100, 106, 3, 0, []),
   (6, 3, .ifCond .ne 10, 16, 0, 0, []),
   (9, 1, .aload_n 0, 0, 0, 0, []),
   (10, 2, .ldc 54, 0, 0, -1000000001, []),
   (12, 3, .invokevirtual 55, 105, 701, 0, []),
   (15, 1, .ireturn, 0, 0, 0, [])],
  [(16, 1, .aload_n 0, 0, 0, 0, []),
   (17, 3, .invokevirtual 254, 112, 700, 0, []),
   (20, 1, .istore_n 2, 0, 0, 0, []),
   (21, 1, .iload_n 1, 0, 0, 0, []),
   (22, 3, .ifCond .ne 10, 32, 0, 0, []),
   (25, 1, .iload_n 2, 0, 0, 0, []),
   (26, 3, .invokestatic 257, 219, 1, 0, []),
   (29, 3, .goto 4, 33, 0, 0, [])],
  [(32, 1, .iload_n 2, 0, 0, 0, []),
   (33, 1, .ireturn, 0, 0, 0, [])]]
def cd_87 : aCd := [
  [(0, 1, .aload_n 0, 0, 0, 0, []),
   (1, 3, .getfield 12, 7, 0, 0, []),
   (4, 1, .iload_n 1, 0, 0, 0, []),
   (5, 3, .invokevirtual 74, 2, 1, 0, []),
   (8, 3, .ifnull 12, 20, 0, 0, []),
   (11, 1, .iload_n 2, 0, 0, 0, []),
   (12, 1, .iconst 0, 0, 0, 0, []),
   (13, 1, .iconst 1, 0, 0, 1, []),
   (14, 3, .invokestatic 100, 106, 3, 0, [])],
  [(17, 3, .ifCond .ne 10, 27, 0, 0, []),
   (20, 1, .aload_n 0, 0, 0, 0, []),
   (21, 2, .ldc 54, 0, 0, -1000000001, []),
   (23, 3, .invokevirtual 55, 105, 701, 0, []),
   (26, 1, .ireturn, 0, 0, 0, []),
   (27, 1, .aload_n 0, 0, 0, 0, []),
   (28, 3, .getfield 46, 7, 7, 0, []),
   (31, 1, .iconst (-1), 0, 0, -1, [])],
  [(32, 3, .invokestatic 262, 220, 2, 0, []),
   (35, 1, .iload_n 1, 0, 0, 0, []),
   (36, 1, .istore_n 3, 0, 0, 0, []),
   (37, 1, .iconst 0, 0, 0, 0, []),
   (38, 2, .istore 4, 0, 0, 0, []),
   (40, 2, .iload 4, 0, 0, 0, []),
   (42, 2, .bipush 8, 0, 0, 8, []),
   (44, 3, .if_icmp .ge 46, 90, 0, 0, []),
   (47, 1, .iload_n 3, 0, 0, 0, [])],
  [(48, 1, .iconst 0, 0, 0, 0, []),
   (49, 2, .bipush 7, 0, 0, 7, []),
   (51, 3, .invokestatic 100, 106, 3, 0, []),
   (54, 3, .ifCond .eq 36, 90, 0, 0, []),
   (57, 1, .aload_n 0, 0, 0, 0, []),
   (58, 3, .getfield 46, 7, 7, 0, []),
   (61, 1, .iload_n 3, 0, 0, 0, []),
   (62, 1, .iaload, 0, 0, 0, []),
   (63, 1, .iconst (-1), 0, 0, -1, [])],
  [(64, 3, .if_icmp .ne 26, 90, 0, 0, []),
   (67, 1, .aload_n 0, 0, 0, 0, []),
   (68, 3, .getfield 46, 7, 7, 0, []),
   (71, 1, .iload_n 3, 0, 0, 0, []),
   (72, 2, .iload 4, 0, 0, 0, []),
   (74, 1, .iastore, 0, 0, 0, []),
   (75, 3, .iinc 4 1, 0, 0, 1, []),
   (78, 1, .aload_n 0, 0, 0, 0, []),
   (79, 3, .getfield 12, 7, 0, 0, [])],
  [(82, 1, .iload_n 3, 0, 0, 0, []),
   (83, 3, .invokevirtual 268, 11, 1, 0, []),
   (86, 1, .istore_n 3, 0, 0, 0, []),
   (87, 3, .goto (-47), 40, 0, 0, []),
   (90, 1, .iload_n 3, 0, 0, 0, []),
   (91, 1, .iconst 0, 0, 0, 0, []),
   (92, 2, .bipush 7, 0, 0, 7, []),
   (94, 3, .invokestatic 100, 106, 3, 0, [])],
  [(97, 3, .ifCond .ne 16, 113, 0, 0, []),
   (100, 1, .iload_n 2, 0, 0, 0, []),
   (101, 3, .ifCond .ne 10, 111, 0, 0, []),
   (104, 2, .iload 4, 0, 0, 0, []),
   (106, 1, .iconst 1, 0, 0, 1, []),
   (107, 1, .isub, 0, 0, 0, []),
   (108, 3, .goto 4, 112, 0, 0, []),
   (111, 1, .iconst 0, 0, 0, 0, [])],
  [(112, 1, .ireturn, 0, 0, 0, []),
   (113, 1, .iload_n 2, 0, 0, 0, []),
   (114, 3, .ifCond .ne 12, 126, 0, 0, []),
   (117, 1, .aload_n 0, 0, 0, 0, []),
   (118, 3, .getfield 46, 7, 7, 0, []),
   (121, 1, .iload_n 3, 0, 0, 0, []),
   (122, 1, .iaload, 0, 0, 0, []),
   (123, 3, .goto 12, 135, 0, 0, []),
   (126, 2, .iload 4, 0, 0, 0, [])],
  [(128, 1, .aload_n 0, 0, 0, 0, []),
   (129, 3, .getfield 46, 7, 7, 0, []),
   (132, 1, .iload_n 3, 0, 0, 0, []),
   (133, 1, .iaload, 0, 0, 0, []),
   (134, 1, .isub, 0, 0, 0, []),
   (135, 1, .ireturn, 0, 0, 0, [])]]
def cd_88 : aCd := [
  [(0, 1, .aload_n 0, 0, 0, 0, []),
   (1, 3, .getfield 12, 7, 0, 0, []),
   (4, 1, .iload_n 1, 0, 0, 0, []),
   (5, 3, .invokevirtual 124, 3, 1, 0, []),
   (8, 3, .ifnull 12, 20, 0, 0, []),
   (11, 1, .iload_n 2, 0, 0, 0, []),
   (12, 1, .iconst 0, 0, 0, 0, []),
   (13, 1, .iconst 1, 0, 0, 1, []),
   (14, 3, .invokestatic 100, 106, 3, 0, [])],
  [(17, 3, .ifCond .ne 10, 27, 0, 0, []),
   (20, 1, .aload_n 0, 0, 0, 0, []),
   (21, 2, .ldc 54, 0, 0, -1000000001, []),
   (23, 3, .invokevirtual 55, 105, 701, 0, []),
   (26, 1, .ireturn, 0, 0, 0, []),
   (27, 1, .aload_n 0, 0, 0, 0, []),
   (28, 3, .getfield 12, 7, 0, 0, []),
   (31, 1, .iload_n 1, 0, 0, 0, [])],
  [(32, 1, .iconst 0, 0, 0, 0, []),
   (33, 3, .invokevirtual 245, 10, 2, 0, []),
   (36, 3, .invokestatic 257, 219, 1, 0, []),
   (39, 1, .aload_n 0, 0, 0, 0, []),
   (40, 3, .getfield 12, 7, 0, 0, []),
   (43, 1, .iload_n 1, 0, 0, 0, []),
   (44, 1, .iconst 1, 0, 0, 1, []),
   (45, 3, .invokevirtual 245, 10, 2, 0, [])],
  [(48, 3, .invokestatic 257, 219, 1, 0, []),
   (51, 1, .iadd, 0, 0, 0, []),
   (52, 1, .istore_n 3, 0, 0, 0, []),
   (53, 1, .iconst 2, 0, 0, 2, []),
   (54, 1, .aload_n 0, 0, 0, 0, []),
   (55, 3, .getfield 12, 7, 0, 0, []),
   (58, 3, .getfield 59, 0, 6, 0, []),
   (61, 1, .imul, 0, 0, 0, []),
   (62, 2, .istore 4, 0, 0, 0, [])],
  [(64, 1, .iload_n 3, 0, 0, 0, []),
   (65, 2, .iload 4, 0, 0, 0, []),
   (67, 3, .invokestatic 271, 113, 2, 0, []),
   (70, 2, .istore 5, 0, 0, 0, []),
   (72, 1, .iload_n 2, 0, 0, 0, []),
   (73, 3, .ifCond .ne 10, 83, 0, 0, []),
   (76, 1, .iload_n 3, 0, 0, 0, []),
   (77, 2, .iload 5, 0, 0, 0, []),
   (79, 1, .idiv, 0, 0, 0, [])],
  [(80, 3, .goto 8, 88, 0, 0, []),
   (83, 2, .iload 4, 0, 0, 0, []),
   (85, 2, .iload 5, 0, 0, 0, []),
   (87, 1, .idiv, 0, 0, 0, []),
   (88, 1, .ireturn, 0, 0, 0, [])]]
def cd_89 : aCd := [
  [(0, 1, .aload_n 0, 0, 0, 0, []),
   (1, 1, .iload_n 1, 0, 0, 0, []),
   (2, 3, .invokevirtual 274, 110, 701, 0, []),
   (5, 1, .astore_n 2, 0, 0, 0, []),
   (6, 1, .aload_n 2, 0, 0, 0, []),
   (7, 3, .ifnonnull 10, 17, 0, 0, []),
   (10, 1, .aload_n 0, 0, 0, 0, []),
   (11, 2, .ldc 54, 0, 0, -1000000001, []),
   (13, 3, .invokevirtual 55, 105, 701, 0, [])],
  [(16, 1, .ireturn, 0, 0, 0, []),
   (17, 1, .aload_n 2, 0, 0, 0, []),
   (18, 3, .invokevirtual 278, 46, 400, 0, []),
   (21, 3, .ifCond .eq 11, 32, 0, 0, []),
   (24, 1, .aload_n 0, 0, 0, 0, []),
   (25, 3, .ldc_w 281, 0, 0, -1000000002, []),
   (28, 3, .invokevirtual 55, 105, 701, 0, []),
   (31, 1, .ireturn, 0, 0, 0, [])],
  [(32, 1, .iconst 0, 0, 0, 0, []),
   (33, 1, .istore_n 3, 0, 0, 0, []),
   (34, 1, .iconst 0, 0, 0, 0, []),
   (35, 2, .istore 4, 0, 0, 0, []),
   (37, 2, .iload 4, 0, 0, 0, []),
   (39, 1, .aload_n 0, 0, 0, 0, []),
   (40, 3, .getfield 12, 7, 0, 0, []),
   (43, 3, .getfield 59, 0, 6, 0, []),
   (46, 3, .if_icmp .ge 26, 72, 0, 0, [])],
  [(49, 1, .aload_n 0, 0, 0, 0, []),
   (50, 2, .iload 4, 0, 0, 0, []),
   (52, 1, .aload_n 2, 0, 0, 0, []),
   (53, 3, .invokevirtual 282, 114, 702, 0, []),
   (56, 3, .ifCond .eq 10, 66, 0, 0, []),
   (59, 1, .iload_n 3, 0, 0, 0, []),
   (60, 1, .iconst 1, 0, 0, 1, []),
   (61, 2, .iload 4, 0, 0, 0, []),
   (63, 1, .ishl, 0, 0, 0, [])],
  [(64, 1, .ior, 0, 0, 0, []),
   (65, 1, .istore_n 3, 0, 0, 0, []),
   (66, 3, .iinc 4 1, 0, 0, 1, []),
   (69, 3, .goto (-32), 37, 0, 0, []),
   (72, 1, .iload_n 3, 0, 0, 0, []),
   (73, 1, .ireturn, 0, 0, 0, [])]]
def cd_90 : aCd := [
  [(0, 1, .iload_n 1, 0, 0, 0, []),
   (1, 1, .iconst 0, 0, 0, 0, []),
   (2, 2, .bipush 60, 0, 0, 60, []),
   (4, 3, .invokestatic 100, 106, 3, 0, []),
   (7, 3, .ifCond .eq 12, 19, 0, 0, []),
   (10, 1, .iload_n 2, 0, 0, 0, []),
   (11, 1, .iconst 0, 0, 0, 0, []),
   (12, 1, .iconst 1, 0, 0, 1, []),
   (13, 3, .invokestatic 100, 106, 3, 0, [])],
  [(16, 3, .ifCond .ne 10, 26, 0, 0, []),
   (19, 1, .aload_n 0, 0, 0, 0, []),
   (20, 2, .ldc 54, 0, 0, -1000000001, []),
   (22, 3, .invokevirtual 55, 105, 701, 0, []),
   (25, 1, .ireturn, 0, 0, 0, []),
   (26, 1, .aload_n 0, 0, 0, 0, []),
   (27, 3, .getfield 19, 7, 2, 0, []),
   (30, 1, .aload_n 0, 0, 0, 0, []),
   (31, 3, .getfield 12, 7, 0, 0, [])],
  [(34, 3, .invokevirtual 248, 1, 1, 0, []),
   (37, 1, .iconst 0, 0, 0, 0, []),
   (38, 1, .istore_n 3, 0, 0, 0, []),
   (39, 1, .iload_n 3, 0, 0, 0, []),
   (40, 1, .iload_n 1, 0, 0, 0, []),
   (41, 3, .if_icmp .ge 17, 58, 0, 0, []),
   (44, 1, .aload_n 0, 0, 0, 0, []),
   (45, 3, .getfield 19, 7, 2, 0, [])],
  [(48, 3, .invokevirtual 217, 17, 0, 0, []),
   (51, 1, .pop, 0, 0, 0, []),
   (52, 3, .iinc 3 1, 0, 0, 1, []),
   (55, 3, .goto (-16), 39, 0, 0, []),
   (58, 1, .iload_n 2, 0, 0, 0, []),
   (59, 3, .ifCond .ne 13, 72, 0, 0, []),
   (62, 1, .aload_n 0, 0, 0, 0, []),
   (63, 3, .getfield 19, 7, 2, 0, [])],
  [(66, 3, .getfield 220, 0, 11, 0, []),
   (69, 3, .goto 10, 79, 0, 0, []),
   (72, 1, .aload_n 0, 0, 0, 0, []),
   (73, 3, .getfield 19, 7, 2, 0, []),
   (76, 3, .invokevirtual 161, 5, 0, 0, []),
   (79, 1, .ireturn, 0, 0, 0, [])]]
def cd_91 : aCd := [
  [(0, 1, .iconst (-1), 0, 0, -1, []),
   (1, 1, .istore_n 1, 0, 0, 0, []),
   (2, 1, .iconst (-1), 0, 0, -1, []),
   (3, 1, .istore_n 2, 0, 0, 0, []),
   (4, 1, .iconst 0, 0, 0, 0, []),
   (5, 1, .istore_n 3, 0, 0, 0, []),
   (6, 1, .iload_n 3, 0, 0, 0, []),
   (7, 1, .aload_n 0, 0, 0, 0, []),
   (8, 3, .getfield 12, 7, 0, 0, []),
   (11, 3, .getfield 112, 0, 7, 0, []),
   (14, 3, .if_icmp .ge 55, 69, 0, 0, [])],
  [(17, 1, .aload_n 0, 0, 0, 0, []),
   (18, 3, .getfield 12, 7, 0, 0, []),
   (21, 3, .getfield 115, 0, 1, 0, []),
   (24, 1, .iload_n 3, 0, 0, 0, []),
   (25, 1, .aaload, 0, 0, 0, []),
   (26, 3, .getfield 140, 5, 5, 0, []),
   (29, 3, .ifCond .eq 34, 63, 0, 0, [])],
  [(32, 1, .aload_n 0, 0, 0, 0, []),
   (33, 3, .getfield 12, 7, 0, 0, []),
   (36, 3, .getfield 115, 0, 1, 0, []),
   (39, 1, .iload_n 3, 0, 0, 0, []),
   (40, 1, .aaload, 0, 0, 0, []),
   (41, 3, .getfield 137, 5, 3, 0, []),
   (44, 1, .iload_n 2, 0, 0, 0, []),
   (45, 3, .if_icmp .le 18, 63, 0, 0, [])],
  [(48, 1, .aload_n 0, 0, 0, 0, []),
   (49, 3, .getfield 12, 7, 0, 0, []),
   (52, 3, .getfield 115, 0, 1, 0, []),
   (55, 1, .iload_n 3, 0, 0, 0, []),
   (56, 1, .aaload, 0, 0, 0, []),
   (57, 3, .getfield 137, 5, 3, 0, []),
   (60, 1, .istore_n 2, 0, 0, 0, []),
   (61, 1, .iload_n 3, 0, 0, 0, []),
   (62, 1, .istore_n 1, 0, 0, 0, []),
   (63, 3, .iinc 3 1, 0, 0, 1, [])],
  [(66, 3, .goto (-60), 6, 0, 0, []),
   (69, 1, .iload_n 1, 0, 0, 0, []),
   (70, 1, .iconst (-1), 0, 0, -1, []),
   (71, 3, .if_icmp .ne 13, 84, 0, 0, []),
   (74, 1, .aload_n 0, 0, 0, 0, []),
   (75, 3, .ldc_w 281, 0, 0, -1000000002, []),
   (78, 3, .invokevirtual 55, 105, 701, 0, [])],
  [(81, 3, .goto 4, 85, 0, 0, []),
   (84, 1, .iload_n 1, 0, 0, 0, []),
   (85, 1, .ireturn, 0, 0, 0, [])]]
def cd_92 : aCd := [
  [(0, 1, .aload_n 0, 0, 0, 0, []),
   (1, 3, .getfield 12, 7, 0, 0, []),
   (4, 1, .iload_n 1, 0, 0, 0, []),
   (5, 3, .invokevirtual 74, 2, 1, 0, []),
   (8, 2, .astore 4, 0, 0, 0, []),
   (10, 2, .aload 4, 0, 0, 0, []),
   (12, 3, .ifnull 12, 24, 0, 0, []),
   (15, 1, .iload_n 2, 0, 0, 0, [])],
  [(16, 1, .iconst 0, 0, 0, 0, []),
   (17, 1, .iconst 3, 0, 0, 3, []),
   (18, 3, .invokestatic 100, 106, 3, 0, []),
   (21, 3, .ifCond .ne 10, 31, 0, 0, []),
   (24, 1, .aload_n 0, 0, 0, 0, []),
   (25, 2, .ldc 54, 0, 0, -1000000001, []),
   (27, 3, .invokevirtual 55, 105, 701, 0, []),
   (30, 1, .ireturn, 0, 0, 0, []),
   (31, 1, .aload_n 0, 0, 0, 0, [])],
  [(32, 3, .getfield 32, 7, 4, 0, []),
   (35, 2, .aload 4, 0, 0, 0, []),
   (37, 1, .iload_n 2, 0, 0, 0, []),
   (38, 1, .iload_n 3, 0, 0, 0, []),
   (39, 3, .invokevirtual 286, 58, 603, 0, []),
   (42, 3, .ifCond .eq 13, 55, 0, 0, []),
   (45, 1, .aload_n 0, 0, 0, 0, []),
   (46, 3, .getfield 32, 7, 4, 0, [])],
  [(49, 3, .getfield 289, 6, 2, 0, []),
   (52, 3, .goto 10, 62, 0, 0, []),
   (55, 1, .aload_n 0, 0, 0, 0, []),
   (56, 3, .ldc_w 292, 0, 0, -1000000006, []),
   (59, 3, .invokevirtual 55, 105, 701, 0, []),
   (62, 1, .ireturn, 0, 0, 0, [])]]
def cd_93 : aCd := [
  [(0, 1, .iload_n 1, 0, 0, 0, []),
   (1, 1, .iconst 0, 0, 0, 0, []),
   (2, 1, .aload_n 0, 0, 0, 0, []),
   (3, 3, .getfield 32, 7, 4, 0, []),
   (6, 3, .getfield 293, 6, 1, 0, []),
   (9, 1, .iconst 1, 0, 0, 1, []),
   (10, 1, .isub, 0, 0, 0, []),
   (11, 3, .invokestatic 100, 106, 3, 0, []),
   (14, 3, .ifCond .eq 15, 29, 0, 0, [])],
  [(17, 1, .aload_n 0, 0, 0, 0, []),
   (18, 3, .getfield 32, 7, 4, 0, []),
   (21, 3, .getfield 296, 6, 0, 0, []),
   (24, 1, .iload_n 1, 0, 0, 0, []),
   (25, 1, .iaload, 0, 0, 0, []),
   (26, 3, .goto 10, 36, 0, 0, []),
   (29, 1, .aload_n 0, 0, 0, 0, []),
   (30, 3, .ldc_w 281, 0, 0, -1000000002, [])],
  [(33, 3, .invokevirtual 55, 105, 701, 0, []),
   (36, 1, .ireturn, 0, 0, 0, [])]]
def cd_94 : aCd := [
  [(0, 1, .aload_n 0, 0, 0, 0, []),
   (1, 1, .iload_n 1, 0, 0, 0, []),
   (2, 3, .invokevirtual 274, 110, 701, 0, []),
   (5, 2, .astore 4, 0, 0, 0, []),
   (7, 2, .aload 4, 0, 0, 0, []),
   (9, 3, .ifnull 25, 34, 0, 0, []),
   (12, 1, .iload_n 2, 0, 0, 0, []),
   (13, 3, .ifCond .eq 28, 41, 0, 0, [])],
  [(16, 1, .iload_n 2, 0, 0, 0, []),
   (17, 2, .bipush 8, 0, 0, 8, []),
   (19, 3, .if_icmp .eq 22, 41, 0, 0, []),
   (22, 1, .iload_n 2, 0, 0, 0, []),
   (23, 2, .bipush 16, 0, 0, 16, []),
   (25, 3, .if_icmp .eq 16, 41, 0, 0, []),
   (28, 1, .iload_n 2, 0, 0, 0, []),
   (29, 2, .bipush 32, 0, 0, 32, []),
   (31, 3, .if_icmp .eq 10, 41, 0, 0, [])],
  [(34, 1, .aload_n 0, 0, 0, 0, []),
   (35, 2, .ldc 54, 0, 0, -1000000001, []),
   (37, 3, .invokevirtual 55, 105, 701, 0, []),
   (40, 1, .ireturn, 0, 0, 0, []),
   (41, 1, .iload_n 2, 0, 0, 0, []),
   (42, 3, .ifCond .eq 14, 56, 0, 0, []),
   (45, 1, .iload_n 3, 0, 0, 0, []),
   (46, 3, .ifCond .ge 10, 56, 0, 0, [])],
  [(49, 1, .aload_n 0, 0, 0, 0, []),
   (50, 2, .ldc 157, 0, 0, -1000000003, []),
   (52, 3, .invokevirtual 55, 105, 701, 0, []),
   (55, 1, .ireturn, 0, 0, 0, []),
   (56, 1, .iload_n 2, 0, 0, 0, []),
   (57, 3, .ifCond .eq 16, 73, 0, 0, []),
   (60, 1, .iload_n 3, 0, 0, 0, []),
   (61, 2, .bipush 24, 0, 0, 24, []),
   (63, 3, .if_icmp .le 10, 73, 0, 0, [])],
  [(66, 1, .aload_n 0, 0, 0, 0, []),
   (67, 2, .ldc 54, 0, 0, -1000000001, []),
   (69, 3, .invokevirtual 55, 105, 701, 0, []),
   (72, 1, .ireturn, 0, 0, 0, []),
   (73, 2, .aload 4, 0, 0, 0, []),
   (75, 1, .iload_n 2, 0, 0, 0, []),
   (76, 1, .iload_n 2, 0, 0, 0, []),
   (77, 3, .ifCond .ne 7, 84, 0, 0, [])],
  [(80, 1, .iconst 0, 0, 0, 0, []),
   (81, 3, .goto 4, 85, 0, 0, []),
   (84, 1, .iload_n 3, 0, 0, 0, []),
   (85, 3, .invokevirtual 299, 47, 402, 0, []),
   (88, 1, .iconst 1, 0, 0, 1, []),
   (89, 1, .ireturn, 0, 0, 0, [])]]
def cd_95 : aCd := [
  [(0, 1, .aload_n 0, 0, 0, 0, []),
   (1, 1, .iload_n 1, 0, 0, 0, []),
   (2, 3, .invokevirtual 274, 110, 701, 0, []),
   (5, 2, .astore 4, 0, 0, 0, []),
   (7, 2, .aload 4, 0, 0, 0, []),
   (9, 3, .ifnonnull 10, 19, 0, 0, []),
   (12, 1, .aload_n 0, 0, 0, 0, []),
   (13, 2, .ldc 54, 0, 0, -1000000001, []),
   (15, 3, .invokevirtual 55, 105, 701, 0, [])],
  [(18, 1, .ireturn, 0, 0, 0, []),
   (19, 2, .aload 4, 0, 0, 0, []),
   (21, 3, .invokevirtual 278, 46, 400, 0, []),
   (24, 3, .ifCond .eq 11, 35, 0, 0, []),
   (27, 1, .aload_n 0, 0, 0, 0, []),
   (28, 3, .ldc_w 281, 0, 0, -1000000002, []),
   (31, 3, .invokevirtual 55, 105, 701, 0, [])],
  [(34, 1, .ireturn, 0, 0, 0, []),
   (35, 2, .aload 4, 0, 0, 0, []),
   (37, 1, .iload_n 2, 0, 0, 0, []),
   (38, 1, .iconst 1, 0, 0, 1, []),
   (39, 3, .invokevirtual 303, 48, 402, 0, []),
   (42, 3, .ifCond .ne 10, 52, 0, 0, []),
   (45, 1, .aload_n 0, 0, 0, 0, []),
   (46, 2, .ldc 54, 0, 0, -1000000001, [])],
  [(48, 3, .invokevirtual 55, 105, 701, 0, []),
   (51, 1, .ireturn, 0, 0, 0, []),
   (52, 2, .aload 4, 0, 0, 0, []),
   (54, 1, .iload_n 2, 0, 0, 0, []),
   (55, 1, .iload_n 3, 0, 0, 0, []),
   (56, 3, .invokevirtual 307, 49, 402, 0, []),
   (59, 1, .iconst 1, 0, 0, 1, []),
   (60, 1, .ireturn, 0, 0, 0, [])]]
def cd_96 : aCd := [
  [(0, 1, .aload_n 0, 0, 0, 0, []),
   (1, 1, .iload_n 1, 0, 0, 0, []),
   (2, 3, .invokevirtual 274, 110, 701, 0, []),
   (5, 2, .astore 6, 0, 0, 0, []),
   (7, 1, .aload_n 0, 0, 0, 0, []),
   (8, 1, .iload_n 3, 0, 0, 0, []),
   (9, 3, .invokevirtual 274, 110, 701, 0, []),
   (12, 2, .astore 7, 0, 0, 0, []),
   (14, 2, .aload 6, 0, 0, 0, [])],
  [(16, 3, .ifnull 8, 24, 0, 0, []),
   (19, 2, .aload 7, 0, 0, 0, []),
   (21, 3, .ifnonnull 10, 31, 0, 0, []),
   (24, 1, .aload_n 0, 0, 0, 0, []),
   (25, 2, .ldc 54, 0, 0, -1000000001, []),
   (27, 3, .invokevirtual 55, 105, 701, 0, []),
   (30, 1, .ireturn, 0, 0, 0, []),
   (31, 2, .aload 6, 0, 0, 0, [])],
  [(33, 3, .invokevirtual 278, 46, 400, 0, []),
   (36, 3, .ifCond .ne 11, 47, 0, 0, []),
   (39, 2, .aload 7, 0, 0, 0, []),
   (41, 3, .invokevirtual 278, 46, 400, 0, []),
   (44, 3, .ifCond .eq 11, 55, 0, 0, []),
   (47, 1, .aload_n 0, 0, 0, 0, [])],
  [(48, 3, .ldc_w 281, 0, 0, -1000000002, []),
   (51, 3, .invokevirtual 55, 105, 701, 0, []),
   (54, 1, .ireturn, 0, 0, 0, []),
   (55, 2, .aload 6, 0, 0, 0, []),
   (57, 3, .getfield 310, 4, 1, 0, []),
   (60, 2, .aload 7, 0, 0, 0, []),
   (62, 3, .getfield 310, 4, 1, 0, [])],
  [(65, 3, .if_icmp .eq 10, 75, 0, 0, []),
   (68, 1, .aload_n 0, 0, 0, 0, []),
   (69, 2, .ldc 107, 0, 0, -1000000005, []),
   (71, 3, .invokevirtual 55, 105, 701, 0, []),
   (74, 1, .ireturn, 0, 0, 0, []),
   (75, 2, .aload 6, 0, 0, 0, []),
   (77, 1, .iload_n 2, 0, 0, 0, []),
   (78, 2, .iload 5, 0, 0, 0, [])],
  [(80, 3, .invokevirtual 303, 48, 402, 0, []),
   (83, 3, .ifCond .eq 15, 98, 0, 0, []),
   (86, 2, .aload 7, 0, 0, 0, []),
   (88, 2, .iload 4, 0, 0, 0, []),
   (90, 2, .iload 5, 0, 0, 0, []),
   (92, 3, .invokevirtual 303, 48, 402, 0, []),
   (95, 3, .ifCond .ne 10, 105, 0, 0, [])],
  [(98, 1, .aload_n 0, 0, 0, 0, []),
   (99, 2, .ldc 54, 0, 0, -1000000001, []),
   (101, 3, .invokevirtual 55, 105, 701, 0, []),
   (104, 1, .ireturn, 0, 0, 0, []),
   (105, 2, .aload 6, 0, 0, 0, []),
   (107, 3, .getfield 313, 4, 0, 0, []),
   (110, 1, .iload_n 2, 0, 0, 0, []),
   (111, 2, .aload 7, 0, 0, 0, [])],
  [(113, 3, .getfield 313, 4, 0, 0, []),
   (116, 2, .iload 4, 0, 0, 0, []),
   (118, 2, .iload 5, 0, 0, 0, []),
   (120, 3, .invokestatic 316, 902, 0, 0, []),
   (123, 2, .iload 5, 0, 0, 0, []),
   (125, 1, .ireturn, 0, 0, 0, [])]]
def cd_97 : aCd := [
  [(0, 1, .aload_n 0, 0, 0, 0, []),
   (1, 1, .iload_n 1, 0, 0, 0, []),
   (2, 3, .invokevirtual 274, 110, 701, 0, []),
   (5, 1, .astore_n 2, 0, 0, 0, []),
   (6, 1, .aload_n 2, 0, 0, 0, []),
   (7, 3, .ifnonnull 10, 17, 0, 0, []),
   (10, 1, .aload_n 0, 0, 0, 0, []),
   (11, 2, .ldc 54, 0, 0, -1000000001, []),
   (13, 3, .invokevirtual 55, 105, 701, 0, [])],
  [(16, 1, .ireturn, 0, 0, 0, []),
   (17, 1, .aload_n 2, 0, 0, 0, []),
   (18, 3, .invokevirtual 278, 46, 400, 0, []),
   (21, 3, .ifCond .eq 11, 32, 0, 0, []),
   (24, 1, .aload_n 0, 0, 0, 0, []),
   (25, 3, .ldc_w 281, 0, 0, -1000000002, []),
   (28, 3, .invokevirtual 55, 105, 701, 0, []),
   (31, 1, .ireturn, 0, 0, 0, [])],
  [(32, 1, .iconst 0, 0, 0, 0, []),
   (33, 1, .istore_n 3, 0, 0, 0, []),
   (34, 1, .iload_n 3, 0, 0, 0, []),
   (35, 1, .aload_n 2, 0, 0, 0, []),
   (36, 3, .getfield 322, 4, 2, 0, []),
   (39, 3, .if_icmp .ge 52, 91, 0, 0, []),
   (42, 1, .iload_n 3, 0, 0, 0, []),
   (43, 1, .aload_n 0, 0, 0, 0, []),
   (44, 3, .getfield 12, 7, 0, 0, []),
   (47, 3, .getfield 112, 0, 7, 0, [])],
  [(50, 3, .if_icmp .ge 41, 91, 0, 0, []),
   (53, 1, .aload_n 2, 0, 0, 0, []),
   (54, 3, .getfield 313, 4, 0, 0, []),
   (57, 1, .iload_n 3, 0, 0, 0, []),
   (58, 1, .iaload, 0, 0, 0, []),
   (59, 1, .iconst 0, 0, 0, 0, []),
   (60, 1, .iconst 2, 0, 0, 2, []),
   (61, 3, .invokestatic 100, 106, 3, 0, [])],
  [(64, 3, .ifCond .eq 27, 91, 0, 0, []),
   (67, 1, .aload_n 0, 0, 0, 0, []),
   (68, 3, .getfield 12, 7, 0, 0, []),
   (71, 3, .getfield 115, 0, 1, 0, []),
   (74, 1, .iload_n 3, 0, 0, 0, []),
   (75, 1, .aaload, 0, 0, 0, []),
   (76, 1, .aload_n 2, 0, 0, 0, []),
   (77, 3, .getfield 313, 4, 0, 0, [])],
  [(80, 1, .iload_n 3, 0, 0, 0, []),
   (81, 1, .iaload, 0, 0, 0, []),
   (82, 3, .putfield 131, 5, 1, 0, []),
   (85, 3, .iinc 3 1, 0, 0, 1, []),
   (88, 3, .goto (-54), 34, 0, 0, []),
   (91, 1, .iload_n 3, 0, 0, 0, []),
   (92, 1, .ireturn, 0, 0, 0, [])]]
def cd_98 : aCd := [
  [(0, 1, .aload_n 0, 0, 0, 0, []),
   (1, 1, .iload_n 1, 0, 0, 0, []),
   (2, 3, .invokevirtual 274, 110, 701, 0, []),
   (5, 1, .astore_n 2, 0, 0, 0, []),
   (6, 1, .aload_n 2, 0, 0, 0, []),
   (7, 3, .ifnonnull 10, 17, 0, 0, []),
   (10, 1, .aload_n 0, 0, 0, 0, []),
   (11, 2, .ldc 54, 0, 0, -1000000001, []),
   (13, 3, .invokevirtual 55, 105, 701, 0, [])],
  [(16, 1, .ireturn, 0, 0, 0, []),
   (17, 1, .aload_n 2, 0, 0, 0, []),
   (18, 3, .invokevirtual 278, 46, 400, 0, []),
   (21, 3, .ifCond .eq 11, 32, 0, 0, []),
   (24, 1, .aload_n 0, 0, 0, 0, []),
   (25, 3, .ldc_w 281, 0, 0, -1000000002, []),
   (28, 3, .invokevirtual 55, 105, 701, 0, []),
   (31, 1, .ireturn, 0, 0, 0, [])],
  [(32, 1, .aload_n 0, 0, 0, 0, []),
   (33, 3, .getfield 19, 7, 2, 0, []),
   (36, 1, .aload_n 0, 0, 0, 0, []),
   (37, 3, .getfield 12, 7, 0, 0, []),
   (40, 3, .invokevirtual 248, 1, 1, 0, []),
   (43, 1, .iconst 0, 0, 0, 0, []),
   (44, 1, .istore_n 3, 0, 0, 0, []),
   (45, 1, .iload_n 3, 0, 0, 0, []),
   (46, 1, .aload_n 2, 0, 0, 0, []),
   (47, 3, .getfield 322, 4, 2, 0, [])],
  [(50, 3, .if_icmp .ge 25, 75, 0, 0, []),
   (53, 1, .aload_n 0, 0, 0, 0, []),
   (54, 3, .getfield 19, 7, 2, 0, []),
   (57, 3, .invokevirtual 217, 17, 0, 0, []),
   (60, 1, .aload_n 2, 0, 0, 0, []),
   (61, 3, .getfield 313, 4, 0, 0, [])],
  [(64, 1, .iload_n 3, 0, 0, 0, []),
   (65, 1, .iaload, 0, 0, 0, []),
   (66, 3, .if_icmp .ne 9, 75, 0, 0, []),
   (69, 3, .iinc 3 1, 0, 0, 1, []),
   (72, 3, .goto (-27), 45, 0, 0, []),
   (75, 1, .iload_n 3, 0, 0, 0, []),
   (76, 1, .ireturn, 0, 0, 0, [])]]
def cd_99 : aCd := [
  [(0, 1, .aload_n 0, 0, 0, 0, []),
   (1, 3, .getfield 16, 7, 1, 0, []),
   (4, 1, .aload_n 0, 0, 0, 0, []),
   (5, 3, .getfield 12, 7, 0, 0, []),
   (8, 3, .invokevirtual 248, 1, 1, 0, []),
   (11, 1, .aload_n 0, 0, 0, 0, []),
   (12, 1, .dup, 0, 0, 0, []),
   (13, 3, .getfield 325, 7, 8, 0, [])],
  [(16, 1, .iconst 1, 0, 0, 1, []),
   (17, 1, .iadd, 0, 0, 0, []),
   (18, 3, .putfield 325, 7, 8, 0, []),
   (21, 1, .aload_n 0, 0, 0, 0, []),
   (22, 3, .getfield 325, 7, 8, 0, []),
   (25, 1, .ireturn, 0, 0, 0, [])]]
def cd_100 : aCd := [
  [(0, 1, .aload_n 0, 0, 0, 0, []),
   (1, 3, .getfield 325, 7, 8, 0, []),
   (4, 3, .ifCond .ne 11, 15, 0, 0, []),
   (7, 1, .aload_n 0, 0, 0, 0, []),
   (8, 3, .ldc_w 281, 0, 0, -1000000002, []),
   (11, 3, .invokevirtual 55, 105, 701, 0, []),
   (14, 1, .ireturn, 0, 0, 0, []),
   (15, 1, .aload_n 0, 0, 0, 0, [])],
  [(16, 3, .getfield 12, 7, 0, 0, []),
   (19, 1, .aload_n 0, 0, 0, 0, []),
   (20, 3, .getfield 16, 7, 1, 0, []),
   (23, 3, .invokevirtual 248, 1, 1, 0, []),
   (26, 1, .aload_n 0, 0, 0, 0, []),
   (27, 3, .getfield 12, 7, 0, 0, []),
   (30, 3, .getfield 214, 0, 10, 0, [])],
  [(33, 1, .ireturn, 0, 0, 0, [])]]
def cd_101 : aCd := [
  [(0, 1, .aload_n 0, 0, 0, 0, []),
   (1, 3, .getfield 12, 7, 0, 0, []),
   (4, 3, .getfield 328, 0, 9, 0, []),
   (7, 2, .bipush 24, 0, 0, 24, []),
   (9, 3, .if_icmp .lt 10, 19, 0, 0, []),
   (12, 1, .aload_n 0, 0, 0, 0, []),
   (13, 2, .ldc 63, 0, 0, -1000000004, []),
   (15, 3, .invokevirtual 55, 105, 701, 0, [])],
  [(18, 1, .ireturn, 0, 0, 0, []),
   (19, 1, .aload_n 0, 0, 0, 0, []),
   (20, 3, .getfield 12, 7, 0, 0, []),
   (23, 3, .getfield 331, 0, 5, 0, []),
   (26, 1, .aload_n 0, 0, 0, 0, []),
   (27, 3, .getfield 12, 7, 0, 0, []),
   (30, 3, .getfield 328, 0, 9, 0, [])],
  [(33, 1, .iload_n 1, 0, 0, 0, []),
   (34, 1, .iastore, 0, 0, 0, []),
   (35, 1, .aload_n 0, 0, 0, 0, []),
   (36, 3, .getfield 12, 7, 0, 0, []),
   (39, 1, .dup, 0, 0, 0, []),
   (40, 3, .getfield 328, 0, 9, 0, []),
   (43, 1, .iconst 1, 0, 0, 1, []),
   (44, 1, .iadd, 0, 0, 0, []),
   (45, 3, .putfield 328, 0, 9, 0, [])],
  [(48, 1, .aload_n 0, 0, 0, 0, []),
   (49, 3, .getfield 12, 7, 0, 0, []),
   (52, 3, .getfield 328, 0, 9, 0, []),
   (55, 1, .ireturn, 0, 0, 0, [])]]
def cd_102 : aCd := [
  [(0, 1, .aload_n 0, 0, 0, 0, []),
   (1, 3, .getfield 12, 7, 0, 0, []),
   (4, 3, .getfield 328, 0, 9, 0, []),
   (7, 1, .istore_n 1, 0, 0, 0, []),
   (8, 1, .aload_n 0, 0, 0, 0, []),
   (9, 3, .getfield 12, 7, 0, 0, []),
   (12, 1, .iconst 0, 0, 0, 0, []),
   (13, 3, .putfield 328, 0, 9, 0, [])],
  [(16, 1, .iconst 0, 0, 0, 0, []),
   (17, 1, .istore_n 2, 0, 0, 0, []),
   (18, 1, .iload_n 2, 0, 0, 0, []),
   (19, 1, .iload_n 1, 0, 0, 0, []),
   (20, 3, .if_icmp .ge 42, 62, 0, 0, []),
   (23, 1, .aload_n 0, 0, 0, 0, []),
   (24, 3, .getfield 12, 7, 0, 0, []),
   (27, 1, .iload_n 2, 0, 0, 0, []),
   (28, 3, .invokevirtual 74, 2, 1, 0, []),
   (31, 1, .astore_n 3, 0, 0, 0, [])],
  [(32, 1, .aload_n 3, 0, 0, 0, []),
   (33, 3, .ifnull 19, 52, 0, 0, []),
   (36, 1, .aload_n 3, 0, 0, 0, []),
   (37, 3, .getfield 84, 2, 3, 0, []),
   (40, 1, .aload_n 0, 0, 0, 0, []),
   (41, 3, .getfield 12, 7, 0, 0, []),
   (44, 3, .getfield 331, 0, 5, 0, []),
   (47, 1, .iload_n 2, 0, 0, 0, [])],
  [(48, 1, .iaload, 0, 0, 0, []),
   (49, 3, .if_icmp .eq 7, 56, 0, 0, []),
   (52, 1, .iconst 1, 0, 0, 1, []),
   (53, 1, .iload_n 2, 0, 0, 0, []),
   (54, 1, .iadd, 0, 0, 0, []),
   (55, 1, .ireturn, 0, 0, 0, []),
   (56, 3, .iinc 2 1, 0, 0, 1, []),
   (59, 3, .goto (-41), 18, 0, 0, []),
   (62, 1, .iconst 0, 0, 0, 0, []),
   (63, 1, .ireturn, 0, 0, 0, [])]]
def cd_103 : aCd := [
  [(0, 1, .iload_n 1, 0, 0, 0, []),
   (1, 59, .tableswitch 147 0 10 #[59, 67, 75, 83, 91, 99, 107, 115, 123, 131, 139], 148, 0, 0, [(0, 60), (1, 68), (2, 76), (3, 84), (4, 92), (5, 100), (6, 108), (7, 116), (8, 124), (9, 132), (10, 140)])],
  [],
  [],
  [(60, 1, .aload_n 0, 0, 0, 0, []),
   (61, 3, .getfield 12, 7, 0, 0, [])],
  [(64, 3, .getfield 59, 0, 6, 0, []),
   (67, 1, .ireturn, 0, 0, 0, []),
   (68, 1, .aload_n 0, 0, 0, 0, []),
   (69, 3, .getfield 12, 7, 0, 0, []),
   (72, 3, .getfield 112, 0, 7, 0, []),
   (75, 1, .ireturn, 0, 0, 0, []),
   (76, 1, .aload_n 0, 0, 0, 0, []),
   (77, 3, .getfield 12, 7, 0, 0, [])],
  [(80, 3, .invokevirtual 161, 5, 0, 0, []),
   (83, 1, .ireturn, 0, 0, 0, []),
   (84, 1, .aload_n 0, 0, 0, 0, []),
   (85, 3, .getfield 12, 7, 0, 0, []),
   (88, 3, .getfield 214, 0, 10, 0, []),
   (91, 1, .ireturn, 0, 0, 0, []),
   (92, 1, .aload_n 0, 0, 0, 0, []),
   (93, 3, .getfield 12, 7, 0, 0, [])],
  [(96, 3, .getfield 220, 0, 11, 0, []),
   (99, 1, .ireturn, 0, 0, 0, []),
   (100, 1, .aload_n 0, 0, 0, 0, []),
   (101, 3, .getfield 12, 7, 0, 0, []),
   (104, 3, .getfield 334, 0, 12, 0, []),
   (107, 1, .ireturn, 0, 0, 0, []),
   (108, 1, .aload_n 0, 0, 0, 0, []),
   (109, 3, .getfield 12, 7, 0, 0, [])],
  [(112, 3, .getfield 226, 0, 13, 0, []),
   (115, 1, .ireturn, 0, 0, 0, []),
   (116, 1, .aload_n 0, 0, 0, 0, []),
   (117, 3, .getfield 12, 7, 0, 0, []),
   (120, 3, .getfield 164, 0, 8, 0, []),
   (123, 1, .ireturn, 0, 0, 0, []),
   (124, 1, .aload_n 0, 0, 0, 0, []),
   (125, 3, .getfield 12, 7, 0, 0, [])],
  [(128, 3, .getfield 328, 0, 9, 0, []),
   (131, 1, .ireturn, 0, 0, 0, []),
   (132, 1, .aload_n 0, 0, 0, 0, []),
   (133, 3, .getfield 32, 7, 4, 0, []),
   (136, 3, .getfield 293, 6, 1, 0, []),
   (139, 1, .ireturn, 0, 0, 0, []),
   (140, 1, .aload_n 0, 0, 0, 0, []),
   (141, 3, .getfield 12, 7, 0, 0, [])],
  [(144, 3, .getfield 235, 0, 14, 0, []),
   (147, 1, .ireturn, 0, 0, 0, []),
   (148, 1, .aload_n 0, 0, 0, 0, []),
   (149, 2, .ldc 54, 0, 0, -1000000001, []),
   (151, 3, .invokevirtual 55, 105, 701, 0, []),
   (154, 1, .ireturn, 0, 0, 0, [])]]
def cd_104 : aCd := [
  [(0, 1, .iload_n 1, 0, 0, 0, []),
   (1, 1, .iconst 1, 0, 0, 1, []),
   (2, 2, .bipush 6, 0, 0, 6, []),
   (4, 3, .invokestatic 100, 106, 3, 0, []),
   (7, 3, .ifCond .eq 12, 19, 0, 0, []),
   (10, 1, .aload_n 0, 0, 0, 0, []),
   (11, 3, .getfield 42, 7, 6, 0, []),
   (14, 1, .iload_n 1, 0, 0, 0, []),
   (15, 1, .iaload, 0, 0, 0, [])],
  [(16, 3, .goto 9, 25, 0, 0, []),
   (19, 1, .aload_n 0, 0, 0, 0, []),
   (20, 2, .ldc 54, 0, 0, -1000000001, []),
   (22, 3, .invokevirtual 55, 105, 701, 0, []),
   (25, 1, .ireturn, 0, 0, 0, [])]]
def cd_105 : aCd := [
  [(0, 3, .ldc_w 337, 0, 0, -1000000000, []),
   (3, 1, .iload_n 1, 0, 0, 0, []),
   (4, 1, .isub, 0, 0, 0, []),
   (5, 1, .istore_n 2, 0, 0, 0, []),
   (6, 1, .iload_n 2, 0, 0, 0, []),
   (7, 1, .iconst 1, 0, 0, 1, []),
   (8, 2, .bipush 6, 0, 0, 6, []),
   (10, 3, .invokestatic 100, 106, 3, 0, []),
   (13, 3, .ifCond .eq 13, 26, 0, 0, [])],
  [(16, 1, .aload_n 0, 0, 0, 0, []),
   (17, 3, .getfield 42, 7, 6, 0, []),
   (20, 1, .iload_n 2, 0, 0, 0, []),
   (21, 1, .dup2, 0, 0, 0, []),
   (22, 1, .iaload, 0, 0, 0, []),
   (23, 1, .iconst 1, 0, 0, 1, []),
   (24, 1, .iadd, 0, 0, 0, []),
   (25, 1, .iastore, 0, 0, 0, []),
   (26, 1, .iload_n 1, 0, 0, 0, []),
   (27, 1, .ireturn, 0, 0, 0, [])]]
def cd_106 : aCd := [
  [(0, 1, .iload_n 0, 0, 0, 0, []),
   (1, 1, .iload_n 1, 0, 0, 0, []),
   (2, 3, .if_icmp .lt 12, 14, 0, 0, []),
   (5, 1, .iload_n 0, 0, 0, 0, []),
   (6, 1, .iload_n 2, 0, 0, 0, []),
   (7, 3, .if_icmp .gt 7, 14, 0, 0, []),
   (10, 1, .iconst 1, 0, 0, 1, []),
   (11, 3, .goto 4, 15, 0, 0, []),
   (14, 1, .iconst 0, 0, 0, 0, []),
   (15, 1, .ireturn, 0, 0, 0, [])]]
def cd_107 : aCd := [
  [(0, 1, .iload_n 0, 0, 0, 0, []),
   (1, 1, .iconst 0, 0, 0, 0, []),
   (2, 1, .iconst 1, 0, 0, 1, []),
   (3, 3, .invokestatic 100, 106, 3, 0, []),
   (6, 1, .ireturn, 0, 0, 0, [])]]
def cd_108 : aCd := [
  [(0, 1, .iload_n 0, 0, 0, 0, []),
   (1, 1, .iconst 0, 0, 0, 0, []),
   (2, 2, .bipush 69, 0, 0, 69, []),
   (4, 3, .invokestatic 100, 106, 3, 0, []),
   (7, 1, .ireturn, 0, 0, 0, [])]]
def cd_109 : aCd := [
  [(0, 1, .iload_n 2, 0, 0, 0, []),
   (1, 27, .tableswitch 73 0 2 #[27, 35, 43], 74, 0, 0, [(0, 28), (1, 36), (2, 44)])],
  [(28, 1, .iload_n 3, 0, 0, 0, []),
   (29, 1, .iconst 0, 0, 0, 0, []),
   (30, 2, .bipush 99, 0, 0, 99, [])],
  [(32, 3, .invokestatic 100, 106, 3, 0, []),
   (35, 1, .ireturn, 0, 0, 0, []),
   (36, 1, .iload_n 3, 0, 0, 0, []),
   (37, 1, .iconst 0, 0, 0, 0, []),
   (38, 2, .bipush 9, 0, 0, 9, []),
   (40, 3, .invokestatic 100, 106, 3, 0, []),
   (43, 1, .ireturn, 0, 0, 0, []),
   (44, 1, .iload_n 3, 0, 0, 0, []),
   (45, 1, .iconst (-1), 0, 0, -1, []),
   (46, 3, .if_icmp .eq 22, 68, 0, 0, [])],
  [(49, 1, .iload_n 3, 0, 0, 0, []),
   (50, 1, .aload_n 1, 0, 0, 0, []),
   (51, 3, .getfield 338, 2, 0, 0, []),
   (54, 3, .if_icmp .eq 18, 72, 0, 0, []),
   (57, 1, .aload_n 0, 0, 0, 0, []),
   (58, 3, .getfield 12, 7, 0, 0, []),
   (61, 1, .iload_n 3, 0, 0, 0, []),
   (62, 3, .invokevirtual 74, 2, 1, 0, [])],
  [(65, 3, .ifnull 7, 72, 0, 0, []),
   (68, 1, .iconst 1, 0, 0, 1, []),
   (69, 3, .goto 4, 73, 0, 0, []),
   (72, 1, .iconst 0, 0, 0, 0, []),
   (73, 1, .ireturn, 0, 0, 0, []),
   (74, 1, .iconst 0, 0, 0, 0, []),
   (75, 1, .ireturn, 0, 0, 0, [])]]
def cd_110 : aCd := [
  [(0, 1, .iload_n 1, 0, 0, 0, []),
   (1, 1, .iconst 0, 0, 0, 0, []),
   (2, 1, .iconst 3, 0, 0, 3, []),
   (3, 3, .invokestatic 100, 106, 3, 0, []),
   (6, 3, .ifCond .eq 12, 18, 0, 0, []),
   (9, 1, .aload_n 0, 0, 0, 0, []),
   (10, 3, .getfield 38, 7, 5, 0, []),
   (13, 1, .iload_n 1, 0, 0, 0, []),
   (14, 1, .aaload, 0, 0, 0, []),
   (15, 3, .goto 4, 19, 0, 0, [])],
  [(18, 1, .aconst_null, 0, 0, 0, []),
   (19, 1, .areturn, 0, 0, 0, [])]]
def cd_111 : aCd := [
  [(0, 1, .aload_n 0, 0, 0, 0, []),
   (1, 3, .getfield 19, 7, 2, 0, []),
   (4, 3, .getfield 115, 0, 1, 0, []),
   (7, 1, .iload_n 1, 0, 0, 0, []),
   (8, 1, .aaload, 0, 0, 0, []),
   (9, 3, .getfield 128, 5, 0, 0, []),
   (12, 1, .istore_n 3, 0, 0, 0, []),
   (13, 1, .aload_n 0, 0, 0, 0, []),
   (14, 3, .getfield 19, 7, 2, 0, [])],
  [(17, 1, .iload_n 1, 0, 0, 0, []),
   (18, 1, .iload_n 2, 0, 0, 0, []),
   (19, 3, .invokevirtual 245, 10, 2, 0, []),
   (22, 1, .iconst 1, 0, 0, 1, []),
   (23, 1, .iload_n 3, 0, 0, 0, []),
   (24, 1, .ishl, 0, 0, 0, []),
   (25, 1, .iconst (-1), 0, 0, -1, []),
   (26, 1, .ixor, 0, 0, 0, []),
   (27, 1, .iand, 0, 0, 0, []),
   (28, 3, .invokestatic 257, 219, 1, 0, []),
   (31, 1, .ireturn, 0, 0, 0, [])]]
def cd_112 : aCd := [
  [(0, 1, .aload_n 0, 0, 0, 0, []),
   (1, 3, .getfield 19, 7, 2, 0, []),
   (4, 1, .aload_n 0, 0, 0, 0, []),
   (5, 3, .getfield 12, 7, 0, 0, []),
   (8, 3, .invokevirtual 248, 1, 1, 0, []),
   (11, 1, .iconst 0, 0, 0, 0, []),
   (12, 1, .istore_n 1, 0, 0, 0, []),
   (13, 1, .iconst 0, 0, 0, 0, []),
   (14, 1, .istore_n 2, 0, 0, 0, []),
   (15, 1, .iload_n 2, 0, 0, 0, [])],
  [(16, 2, .bipush 10, 0, 0, 10, []),
   (18, 3, .if_icmp .ge 43, 61, 0, 0, []),
   (21, 1, .aload_n 0, 0, 0, 0, []),
   (22, 3, .getfield 19, 7, 2, 0, []),
   (25, 3, .invokevirtual 341, 12, 0, 0, []),
   (28, 1, .istore_n 3, 0, 0, 0, []),
   (29, 1, .iload_n 3, 0, 0, 0, []),
   (30, 1, .iconst (-1), 0, 0, -1, []),
   (31, 3, .if_icmp .ne 5, 36, 0, 0, [])],
  [(34, 1, .iload_n 1, 0, 0, 0, []),
   (35, 1, .ireturn, 0, 0, 0, []),
   (36, 1, .aload_n 0, 0, 0, 0, []),
   (37, 3, .getfield 19, 7, 2, 0, []),
   (40, 3, .getfield 115, 0, 1, 0, []),
   (43, 1, .iload_n 3, 0, 0, 0, []),
   (44, 1, .aaload, 0, 0, 0, []),
   (45, 1, .iconst 1, 0, 0, 1, []),
   (46, 3, .putfield 147, 5, 4, 0, [])],
  [(49, 1, .iload_n 1, 0, 0, 0, []),
   (50, 1, .iconst 1, 0, 0, 1, []),
   (51, 1, .iload_n 3, 0, 0, 0, []),
   (52, 1, .ishl, 0, 0, 0, []),
   (53, 1, .ior, 0, 0, 0, []),
   (54, 1, .istore_n 1, 0, 0, 0, []),
   (55, 3, .iinc 2 1, 0, 0, 1, []),
   (58, 3, .goto (-43), 15, 0, 0, []),
   (61, 1, .iload_n 1, 0, 0, 0, []),
   (62, 1, .ireturn, 0, 0, 0, [])]]
def cd_113 : aCd := [
  [(0, 1, .iload_n 1, 0, 0, 0, []),
   (1, 1, .istore_n 2, 0, 0, 0, []),
   (2, 1, .iload_n 2, 0, 0, 0, []),
   (3, 1, .iconst 1, 0, 0, 1, []),
   (4, 3, .if_icmp .le 23, 27, 0, 0, []),
   (7, 1, .iload_n 0, 0, 0, 0, []),
   (8, 1, .iload_n 2, 0, 0, 0, []),
   (9, 1, .irem, 0, 0, 0, []),
   (10, 3, .ifCond .ne 11, 21, 0, 0, []),
   (13, 1, .iload_n 1, 0, 0, 0, []),
   (14, 1, .iload_n 2, 0, 0, 0, []),
   (15, 1, .irem, 0, 0, 0, [])],
  [(16, 3, .ifCond .ne 5, 21, 0, 0, []),
   (19, 1, .iload_n 2, 0, 0, 0, []),
   (20, 1, .ireturn, 0, 0, 0, []),
   (21, 3, .iinc 2 (-1), 0, 0, -1, []),
   (24, 3, .goto (-22), 2, 0, 0, []),
   (27, 1, .iconst 1, 0, 0, 1, []),
   (28, 1, .ireturn, 0, 0, 0, [])]]
def cd_114 : aCd := [
  [(0, 1, .aload_n 0, 0, 0, 0, []),
   (1, 3, .getfield 19, 7, 2, 0, []),
   (4, 1, .aload_n 0, 0, 0, 0, []),
   (5, 3, .getfield 12, 7, 0, 0, []),
   (8, 3, .invokevirtual 248, 1, 1, 0, []),
   (11, 1, .iconst 0, 0, 0, 0, []),
   (12, 1, .istore_n 3, 0, 0, 0, []),
   (13, 1, .iload_n 3, 0, 0, 0, []),
   (14, 1, .aload_n 2, 0, 0, 0, []),
   (15, 3, .getfield 322, 4, 2, 0, [])],
  [(18, 3, .if_icmp .ge 47, 65, 0, 0, []),
   (21, 1, .aload_n 0, 0, 0, 0, []),
   (22, 3, .getfield 19, 7, 2, 0, []),
   (25, 1, .aload_n 0, 0, 0, 0, []),
   (26, 3, .getfield 19, 7, 2, 0, []),
   (29, 3, .getfield 64, 0, 0, 0, [])],
  [(32, 1, .iload_n 1, 0, 0, 0, []),
   (33, 1, .aaload, 0, 0, 0, []),
   (34, 1, .iconst 0, 0, 0, 0, []),
   (35, 3, .invokevirtual 210, 13, 2, 0, []),
   (38, 2, .istore 4, 0, 0, 0, []),
   (40, 2, .iload 4, 0, 0, 0, []),
   (42, 1, .iconst (-1), 0, 0, -1, []),
   (43, 3, .if_icmp .eq 14, 57, 0, 0, []),
   (46, 2, .iload 4, 0, 0, 0, [])],
  [(48, 1, .aload_n 2, 0, 0, 0, []),
   (49, 3, .getfield 313, 4, 0, 0, []),
   (52, 1, .iload_n 3, 0, 0, 0, []),
   (53, 1, .iaload, 0, 0, 0, []),
   (54, 3, .if_icmp .eq 5, 59, 0, 0, []),
   (57, 1, .iconst 0, 0, 0, 0, []),
   (58, 1, .ireturn, 0, 0, 0, []),
   (59, 3, .iinc 3 1, 0, 0, 1, []),
   (62, 3, .goto (-49), 13, 0, 0, [])],
  [(65, 1, .iconst 1, 0, 0, 1, []),
   (66, 1, .ireturn, 0, 0, 0, [])]]
def cd_115 : aCd := [
  [(0, 1, .aload_n 0, 0, 0, 0, []),
   (1, 3, .invokespecial 1, 904, 0, 0, []),
   (4, 1, .aload_n 0, 0, 0, 0, []),
   (5, 3, .sipush 454, 0, 0, 454, []),
   (8, 2, .newarray .int, 0, 0, 0, []),
   (10, 3, .putfield 7, 8, 0, 0, []),
   (13, 1, .aload_n 0, 0, 0, 0, []),
   (14, 3, .sipush 454, 0, 0, 454, [])],
  [(17, 2, .newarray .int, 0, 0, 0, []),
   (19, 3, .putfield 13, 8, 1, 0, []),
   (22, 1, .aload_n 0, 0, 0, 0, []),
   (23, 2, .bipush 120, 0, 0, 120, []),
   (25, 2, .newarray .int, 0, 0, 0, []),
   (27, 3, .putfield 16, 8, 2, 0, []),
   (30, 1, .aload_n 0, 0, 0, 0, []),
   (31, 2, .bipush 7, 0, 0, 7, [])],
  [(33, 2, .newarray .int, 0, 0, 0, []),
   (35, 3, .putfield 19, 8, 4, 0, []),
   (38, 1, .aload_n 0, 0, 0, 0, []),
   (39, 2, .bipush 124, 0, 0, 124, []),
   (41, 2, .newarray .int, 0, 0, 0, []),
   (43, 3, .putfield 22, 8, 9, 0, []),
   (46, 1, .aload_n 0, 0, 0, 0, []),
   (47, 3, .sipush 128, 0, 0, 128, [])],
  [(50, 2, .newarray .int, 0, 0, 0, []),
   (52, 3, .putfield 25, 8, 10, 0, []),
   (55, 1, .aload_n 0, 0, 0, 0, []),
   (56, 2, .bipush 64, 0, 0, 64, []),
   (58, 2, .newarray .int, 0, 0, 0, []),
   (60, 3, .putfield 28, 8, 11, 0, []),
   (63, 1, .aload_n 0, 0, 0, 0, [])],
  [(64, 2, .bipush 80, 0, 0, 80, []),
   (66, 2, .newarray .int, 0, 0, 0, []),
   (68, 3, .putfield 31, 8, 12, 0, []),
   (71, 1, .aload_n 0, 0, 0, 0, []),
   (72, 2, .bipush 8, 0, 0, 8, []),
   (74, 2, .newarray .int, 0, 0, 0, []),
   (76, 3, .putfield 34, 8, 13, 0, []),
   (79, 1, .aload_n 0, 0, 0, 0, [])],
  [(80, 2, .bipush 30, 0, 0, 30, []),
   (82, 2, .newarray .int, 0, 0, 0, []),
   (84, 3, .putfield 37, 8, 15, 0, []),
   (87, 1, .aload_n 0, 0, 0, 0, []),
   (88, 1, .iconst 4, 0, 0, 4, []),
   (89, 2, .newarray .int, 0, 0, 0, []),
   (91, 3, .putfield 40, 8, 18, 0, []),
   (94, 1, .aload_n 0, 0, 0, 0, []),
   (95, 1, .iconst 4, 0, 0, 4, [])],
  [(96, 2, .newarray .int, 0, 0, 0, []),
   (98, 3, .putfield 43, 8, 19, 0, []),
   (101, 1, .aload_n 0, 0, 0, 0, []),
   (102, 2, .bipush 96, 0, 0, 96, []),
   (104, 2, .newarray .int, 0, 0, 0, []),
   (106, 3, .putfield 46, 8, 20, 0, []),
   (109, 1, .aload_n 0, 0, 0, 0, []),
   (110, 2, .bipush 24, 0, 0, 24, [])],
  [(112, 2, .newarray .int, 0, 0, 0, []),
   (114, 3, .putfield 49, 8, 21, 0, []),
   (117, 1, .aload_n 0, 0, 0, 0, []),
   (118, 3, .getfield 7, 8, 0, 0, []),
   (121, 1, .iconst 4, 0, 0, 4, []),
   (122, 1, .iconst 1, 0, 0, 1, []),
   (123, 1, .iastore, 0, 0, 0, []),
   (124, 1, .return_, 0, 0, 0, [])]]
def cd_116 : aCd := [
  [(0, 1, .aload_n 0, 0, 0, 0, []),
   (1, 3, .getfield 19, 8, 4, 0, []),
   (4, 1, .iload_n 1, 0, 0, 0, []),
   (5, 1, .dup2, 0, 0, 0, []),
   (6, 1, .iaload, 0, 0, 0, []),
   (7, 1, .iconst 1, 0, 0, 1, []),
   (8, 1, .iadd, 0, 0, 0, []),
   (9, 1, .iastore, 0, 0, 0, []),
   (10, 2, .ldc 52, 0, 0, -1000000000, []),
   (12, 1, .iload_n 1, 0, 0, 0, []),
   (13, 1, .isub, 0, 0, 0, []),
   (14, 1, .ireturn, 0, 0, 0, [])]]
def cd_117 : aCd := [
  [(0, 1, .iload_n 0, 0, 0, 0, []),
   (1, 1, .iload_n 1, 0, 0, 0, []),
   (2, 3, .if_icmp .lt 12, 14, 0, 0, []),
   (5, 1, .iload_n 0, 0, 0, 0, []),
   (6, 1, .iload_n 2, 0, 0, 0, []),
   (7, 3, .if_icmp .gt 7, 14, 0, 0, []),
   (10, 1, .iconst 1, 0, 0, 1, []),
   (11, 3, .goto 4, 15, 0, 0, []),
   (14, 1, .iconst 0, 0, 0, 0, []),
   (15, 1, .ireturn, 0, 0, 0, [])]]
def cd_118 : aCd := [
  [(0, 1, .iload_n 0, 0, 0, 0, []),
   (1, 1, .iload_n 1, 0, 0, 0, []),
   (2, 3, .if_icmp .ge 7, 9, 0, 0, []),
   (5, 1, .iload_n 1, 0, 0, 0, []),
   (6, 3, .goto 13, 19, 0, 0, []),
   (9, 1, .iload_n 0, 0, 0, 0, []),
   (10, 1, .iload_n 2, 0, 0, 0, []),
   (11, 3, .if_icmp .le 7, 18, 0, 0, []),
   (14, 1, .iload_n 2, 0, 0, 0, []),
   (15, 3, .goto 4, 19, 0, 0, [])],
  [(18, 1, .iload_n 0, 0, 0, 0, []),
   (19, 1, .ireturn, 0, 0, 0, [])]]
def cd_119 : aCd := [
  [(0, 1, .iconst 0, 0, 0, 0, []),
   (1, 1, .istore_n 2, 0, 0, 0, []),
   (2, 1, .iload_n 2, 0, 0, 0, []),
   (3, 3, .sipush 454, 0, 0, 454, []),
   (6, 3, .if_icmp .ge 15, 21, 0, 0, []),
   (9, 1, .aload_n 1, 0, 0, 0, []),
   (10, 1, .iload_n 2, 0, 0, 0, []),
   (11, 1, .aload_n 0, 0, 0, 0, []),
   (12, 1, .iload_n 2, 0, 0, 0, []),
   (13, 1, .iaload, 0, 0, 0, []),
   (14, 1, .iastore, 0, 0, 0, []),
   (15, 3, .iinc 2 1, 0, 0, 1, [])],
  [(18, 3, .goto (-16), 2, 0, 0, []),
   (21, 1, .return_, 0, 0, 0, [])]]
def cd_120 : aCd := [
  [(0, 1, .iconst 0, 0, 0, 0, []),
   (1, 1, .istore_n 1, 0, 0, 0, []),
   (2, 1, .iload_n 1, 0, 0, 0, []),
   (3, 2, .bipush 120, 0, 0, 120, []),
   (5, 3, .if_icmp .ge 21, 26, 0, 0, []),
   (8, 1, .aload_n 0, 0, 0, 0, []),
   (9, 3, .getfield 16, 8, 2, 0, []),
   (12, 1, .iload_n 1, 0, 0, 0, []),
   (13, 1, .aload_n 0, 0, 0, 0, []),
   (14, 3, .getfield 7, 8, 0, 0, [])],
  [(17, 1, .iload_n 1, 0, 0, 0, []),
   (18, 1, .iaload, 0, 0, 0, []),
   (19, 1, .iastore, 0, 0, 0, []),
   (20, 3, .iinc 1 1, 0, 0, 1, []),
   (23, 3, .goto (-21), 2, 0, 0, []),
   (26, 1, .return_, 0, 0, 0, [])]]
def cd_121 : aCd := [
  [(0, 1, .iconst 0, 0, 0, 0, []),
   (1, 1, .istore_n 1, 0, 0, 0, []),
   (2, 1, .iload_n 1, 0, 0, 0, []),
   (3, 2, .bipush 120, 0, 0, 120, []),
   (5, 3, .if_icmp .ge 21, 26, 0, 0, []),
   (8, 1, .aload_n 0, 0, 0, 0, []),
   (9, 3, .getfield 7, 8, 0, 0, []),
   (12, 1, .iload_n 1, 0, 0, 0, []),
   (13, 1, .aload_n 0, 0, 0, 0, []),
   (14, 3, .getfield 16, 8, 2, 0, [])],
  [(17, 1, .iload_n 1, 0, 0, 0, []),
   (18, 1, .iaload, 0, 0, 0, []),
   (19, 1, .iastore, 0, 0, 0, []),
   (20, 3, .iinc 1 1, 0, 0, 1, []),
   (23, 3, .goto (-21), 2, 0, 0, []),
   (26, 1, .return_, 0, 0, 0, [])]]
def cd_122 : aCd := [
  [(0, 1, .iload_n 1, 0, 0, 0, []),
   (1, 1, .iconst 0, 0, 0, 0, []),
   (2, 1, .aload_n 0, 0, 0, 0, []),
   (3, 3, .getfield 7, 8, 0, 0, []),
   (6, 2, .bipush 7, 0, 0, 7, []),
   (8, 1, .iaload, 0, 0, 0, []),
   (9, 1, .iconst 1, 0, 0, 1, []),
   (10, 1, .isub, 0, 0, 0, []),
   (11, 3, .invokestatic 53, 117, 3, 0, []),
   (14, 1, .ireturn, 0, 0, 0, [])]]
def cd_123 : aCd := [
  [(0, 1, .iload_n 1, 0, 0, 0, []),
   (1, 1, .iconst 0, 0, 0, 0, []),
   (2, 1, .aload_n 0, 0, 0, 0, []),
   (3, 3, .getfield 7, 8, 0, 0, []),
   (6, 2, .bipush 8, 0, 0, 8, []),
   (8, 1, .iaload, 0, 0, 0, []),
   (9, 1, .iconst 1, 0, 0, 1, []),
   (10, 1, .isub, 0, 0, 0, []),
   (11, 3, .invokestatic 53, 117, 3, 0, []),
   (14, 1, .ireturn, 0, 0, 0, [])]]
def cd_124 : aCd := [
  [(0, 1, .aload_n 0, 0, 0, 0, []),
   (1, 3, .getfield 7, 8, 0, 0, []),
   (4, 2, .bipush 10, 0, 0, 10, []),
   (6, 1, .iconst 5, 0, 0, 5, []),
   (7, 1, .iload_n 1, 0, 0, 0, []),
   (8, 1, .imul, 0, 0, 0, []),
   (9, 1, .iadd, 0, 0, 0, []),
   (10, 1, .iload_n 2, 0, 0, 0, []),
   (11, 1, .iadd, 0, 0, 0, []),
   (12, 1, .iaload, 0, 0, 0, []),
   (13, 1, .ireturn, 0, 0, 0, [])]]
def cd_125 : aCd := [
  [(0, 1, .aload_n 0, 0, 0, 0, []),
   (1, 3, .getfield 7, 8, 0, 0, []),
   (4, 2, .bipush 10, 0, 0, 10, []),
   (6, 1, .iconst 5, 0, 0, 5, []),
   (7, 1, .iload_n 1, 0, 0, 0, []),
   (8, 1, .imul, 0, 0, 0, []),
   (9, 1, .iadd, 0, 0, 0, []),
   (10, 1, .iload_n 2, 0, 0, 0, []),
   (11, 1, .iadd, 0, 0, 0, []),
   (12, 1, .iload_n 3, 0, 0, 0, []),
   (13, 1, .iastore, 0, 0, 0, []),
   (14, 1, .return_, 0, 0, 0, [])]]
def cd_126 : aCd := [
  [(0, 1, .aload_n 0, 0, 0, 0, []),
   (1, 3, .getfield 7, 8, 0, 0, []),
   (4, 2, .bipush 50, 0, 0, 50, []),
   (6, 2, .bipush 7, 0, 0, 7, []),
   (8, 1, .iload_n 1, 0, 0, 0, []),
   (9, 1, .imul, 0, 0, 0, []),
   (10, 1, .iadd, 0, 0, 0, []),
   (11, 1, .iload_n 2, 0, 0, 0, []),
   (12, 1, .iadd, 0, 0, 0, []),
   (13, 1, .iaload, 0, 0, 0, []),
   (14, 1, .ireturn, 0, 0, 0, [])]]
def cd_127 : aCd := [
  [(0, 1, .aload_n 0, 0, 0, 0, []),
   (1, 3, .getfield 7, 8, 0, 0, []),
   (4, 2, .bipush 50, 0, 0, 50, []),
   (6, 2, .bipush 7, 0, 0, 7, []),
   (8, 1, .iload_n 1, 0, 0, 0, []),
   (9, 1, .imul, 0, 0, 0, []),
   (10, 1, .iadd, 0, 0, 0, []),
   (11, 1, .iload_n 2, 0, 0, 0, []),
   (12, 1, .iadd, 0, 0, 0, []),
   (13, 1, .iload_n 3, 0, 0, 0, []),
   (14, 1, .iastore, 0, 0, 0, []),
   (15, 1, .return_, 0, 0, 0, [])]]
def cd_128 : aCd := [
  [(0, 1, .aload_n 0, 0, 0, 0, []),
   (1, 3, .getfield 7, 8, 0, 0, []),
   (4, 1, .iload_n 1, 0, 0, 0, []),
   (5, 1, .iaload, 0, 0, 0, []),
   (6, 1, .istore_n 3, 0, 0, 0, []),
   (7, 1, .aload_n 0, 0, 0, 0, []),
   (8, 3, .getfield 7, 8, 0, 0, []),
   (11, 1, .iload_n 1, 0, 0, 0, []),
   (12, 1, .iload_n 2, 0, 0, 0, []),
   (13, 1, .iastore, 0, 0, 0, []),
   (14, 1, .iload_n 3, 0, 0, 0, []),
   (15, 1, .ireturn, 0, 0, 0, [])]]
def cd_129 : aCd := [
  [(0, 1, .aload_n 0, 0, 0, 0, []),
   (1, 1, .iload_n 1, 0, 0, 0, []),
   (2, 1, .iconst 5, 0, 0, 5, []),
   (3, 3, .invokevirtual 57, 126, 802, 0, []),
   (6, 1, .iconst 1, 0, 0, 1, []),
   (7, 3, .if_icmp .ne 7, 14, 0, 0, []),
   (10, 1, .iconst 1, 0, 0, 1, []),
   (11, 3, .goto 4, 15, 0, 0, []),
   (14, 1, .iconst 0, 0, 0, 0, []),
   (15, 1, .ireturn, 0, 0, 0, [])]]
def cd_130 : aCd := [
  [(0, 1, .iconst 0, 0, 0, 0, []),
   (1, 1, .istore_n 1, 0, 0, 0, []),
   (2, 1, .iconst 0, 0, 0, 0, []),
   (3, 1, .istore_n 2, 0, 0, 0, []),
   (4, 1, .iload_n 2, 0, 0, 0, []),
   (5, 1, .aload_n 0, 0, 0, 0, []),
   (6, 3, .getfield 7, 8, 0, 0, []),
   (9, 2, .bipush 8, 0, 0, 8, []),
   (11, 1, .iaload, 0, 0, 0, []),
   (12, 3, .if_icmp .ge 25, 37, 0, 0, []),
   (15, 1, .iload_n 1, 0, 0, 0, [])],
  [(16, 1, .aload_n 0, 0, 0, 0, []),
   (17, 1, .iload_n 2, 0, 0, 0, []),
   (18, 3, .invokevirtual 61, 129, 801, 0, []),
   (21, 3, .ifCond .eq 7, 28, 0, 0, []),
   (24, 1, .iconst 1, 0, 0, 1, []),
   (25, 3, .goto 4, 29, 0, 0, []),
   (28, 1, .iconst 0, 0, 0, 0, []),
   (29, 1, .iadd, 0, 0, 0, []),
   (30, 1, .istore_n 1, 0, 0, 0, []),
   (31, 3, .iinc 2 1, 0, 0, 1, [])],
  [(34, 3, .goto (-30), 4, 0, 0, []),
   (37, 1, .iload_n 1, 0, 0, 0, []),
   (38, 1, .ireturn, 0, 0, 0, [])]]
def cd_131 : aCd := [
  [(0, 1, .iload_n 3, 0, 0, 0, []),
   (1, 1, .iconst 1, 0, 0, 1, []),
   (2, 2, .bipush 8, 0, 0, 8, []),
   (4, 3, .invokestatic 53, 117, 3, 0, []),
   (7, 3, .ifCond .ne 9, 16, 0, 0, []),
   (10, 1, .aload_n 0, 0, 0, 0, []),
   (11, 1, .iconst 1, 0, 0, 1, []),
   (12, 3, .invokevirtual 65, 116, 801, 0, []),
   (15, 1, .ireturn, 0, 0, 0, [])],
  [(16, 1, .aload_n 0, 0, 0, 0, []),
   (17, 3, .getfield 7, 8, 0, 0, []),
   (20, 1, .iconst 5, 0, 0, 5, []),
   (21, 1, .iaload, 0, 0, 0, []),
   (22, 1, .iload_n 3, 0, 0, 0, []),
   (23, 1, .iadd, 0, 0, 0, []),
   (24, 2, .bipush 60, 0, 0, 60, []),
   (26, 3, .if_icmp .le 9, 35, 0, 0, []),
   (29, 1, .aload_n 0, 0, 0, 0, []),
   (30, 1, .iconst 4, 0, 0, 4, []),
   (31, 3, .invokevirtual 65, 116, 801, 0, [])],
  [(34, 1, .ireturn, 0, 0, 0, []),
   (35, 1, .iconst 0, 0, 0, 0, []),
   (36, 2, .istore 4, 0, 0, 0, []),
   (38, 2, .iload 4, 0, 0, 0, []),
   (40, 1, .iload_n 3, 0, 0, 0, []),
   (41, 3, .if_icmp .ge 46, 87, 0, 0, []),
   (44, 1, .aload_n 0, 0, 0, 0, []),
   (45, 3, .getfield 7, 8, 0, 0, [])],
  [(48, 3, .sipush 370, 0, 0, 370, []),
   (51, 1, .aload_n 0, 0, 0, 0, []),
   (52, 3, .getfield 7, 8, 0, 0, []),
   (55, 1, .iconst 5, 0, 0, 5, []),
   (56, 1, .iaload, 0, 0, 0, []),
   (57, 1, .iadd, 0, 0, 0, []),
   (58, 1, .lload_n 1, 0, 0, 0, []),
   (59, 2, .bipush 8, 0, 0, 8, []),
   (61, 2, .iload 4, 0, 0, 0, []),
   (63, 1, .imul, 0, 0, 0, [])],
  [(64, 1, .lshr, 0, 0, 0, []),
   (65, 3, .ldc2_w 69, 255, 0, 0, []),
   (68, 1, .land, 0, 0, 0, []),
   (69, 1, .l2i, 0, 0, 0, []),
   (70, 1, .iastore, 0, 0, 0, []),
   (71, 1, .aload_n 0, 0, 0, 0, []),
   (72, 3, .getfield 7, 8, 0, 0, []),
   (75, 1, .iconst 5, 0, 0, 5, []),
   (76, 1, .dup2, 0, 0, 0, []),
   (77, 1, .iaload, 0, 0, 0, []),
   (78, 1, .iconst 1, 0, 0, 1, []),
   (79, 1, .iadd, 0, 0, 0, [])],
  [(80, 1, .iastore, 0, 0, 0, []),
   (81, 3, .iinc 4 1, 0, 0, 1, []),
   (84, 3, .goto (-46), 38, 0, 0, []),
   (87, 1, .aload_n 0, 0, 0, 0, []),
   (88, 3, .getfield 7, 8, 0, 0, []),
   (91, 1, .iconst 5, 0, 0, 5, []),
   (92, 1, .iaload, 0, 0, 0, []),
   (93, 1, .ireturn, 0, 0, 0, [])]]
def cd_132 : aCd := [
  [(0, 1, .aload_n 0, 0, 0, 0, []),
   (1, 3, .getfield 71, 8, 5, 0, []),
   (4, 1, .aload_n 0, 0, 0, 0, []),
   (5, 3, .getfield 7, 8, 0, 0, []),
   (8, 1, .iconst 5, 0, 0, 5, []),
   (9, 1, .iaload, 0, 0, 0, []),
   (10, 3, .if_icmp .ge 19, 29, 0, 0, []),
   (13, 1, .aload_n 0, 0, 0, 0, []),
   (14, 3, .getfield 7, 8, 0, 0, [])],
  [(17, 3, .sipush 370, 0, 0, 370, []),
   (20, 1, .aload_n 0, 0, 0, 0, []),
   (21, 3, .getfield 71, 8, 5, 0, []),
   (24, 1, .iadd, 0, 0, 0, []),
   (25, 1, .iaload, 0, 0, 0, []),
   (26, 3, .goto 4, 30, 0, 0, []),
   (29, 1, .iconst (-1), 0, 0, -1, []),
   (30, 1, .ireturn, 0, 0, 0, [])]]
def cd_133 : aCd := [
  [(0, 1, .iload_n 1, 0, 0, 0, []),
   (1, 2, .bipush 108, 0, 0, 108, []),
   (3, 3, .if_icmp .eq 9, 12, 0, 0, []),
   (6, 1, .iload_n 1, 0, 0, 0, []),
   (7, 2, .bipush 111, 0, 0, 111, []),
   (9, 3, .if_icmp .ne 5, 14, 0, 0, []),
   (12, 1, .iconst 1, 0, 0, 1, []),
   (13, 1, .ireturn, 0, 0, 0, []),
   (14, 1, .aload_n 0, 0, 0, 0, []),
   (15, 3, .getfield 75, 8, 8, 0, [])],
  [(18, 3, .ifCond .ne 17, 35, 0, 0, []),
   (21, 1, .iload_n 1, 0, 0, 0, []),
   (22, 2, .bipush 97, 0, 0, 97, []),
   (24, 3, .if_icmp .ne 7, 31, 0, 0, []),
   (27, 1, .iconst 1, 0, 0, 1, []),
   (28, 3, .goto 18, 46, 0, 0, []),
   (31, 1, .iconst 0, 0, 0, 0, [])],
  [(32, 3, .goto 14, 46, 0, 0, []),
   (35, 1, .iload_n 1, 0, 0, 0, []),
   (36, 2, .bipush 115, 0, 0, 115, []),
   (38, 3, .if_icmp .ne 7, 45, 0, 0, []),
   (41, 1, .iconst 1, 0, 0, 1, []),
   (42, 3, .goto 4, 46, 0, 0, []),
   (45, 1, .iconst 0, 0, 0, 0, []),
   (46, 1, .ireturn, 0, 0, 0, [])]]
def cd_134 : aCd := [
  [(0, 1, .aload_n 0, 0, 0, 0, []),
   (1, 3, .getfield 22, 8, 9, 0, []),
   (4, 1, .iconst 2, 0, 0, 2, []),
   (5, 1, .aload_n 0, 0, 0, 0, []),
   (6, 3, .getfield 78, 8, 7, 0, []),
   (9, 1, .imul, 0, 0, 0, []),
   (10, 1, .iload_n 1, 0, 0, 0, []),
   (11, 1, .iastore, 0, 0, 0, []),
   (12, 1, .aload_n 0, 0, 0, 0, []),
   (13, 3, .getfield 22, 8, 9, 0, [])],
  [(16, 1, .iconst 2, 0, 0, 2, []),
   (17, 1, .aload_n 0, 0, 0, 0, []),
   (18, 3, .getfield 78, 8, 7, 0, []),
   (21, 1, .imul, 0, 0, 0, []),
   (22, 1, .iconst 1, 0, 0, 1, []),
   (23, 1, .iadd, 0, 0, 0, []),
   (24, 1, .iload_n 2, 0, 0, 0, []),
   (25, 1, .iastore, 0, 0, 0, []),
   (26, 1, .aload_n 0, 0, 0, 0, []),
   (27, 1, .dup, 0, 0, 0, []),
   (28, 3, .getfield 78, 8, 7, 0, []),
   (31, 1, .iconst 1, 0, 0, 1, [])],
  [(32, 1, .iadd, 0, 0, 0, []),
   (33, 3, .putfield 78, 8, 7, 0, []),
   (36, 1, .return_, 0, 0, 0, [])]]
def cd_135 : aCd := [
  [(0, 1, .aload_n 0, 0, 0, 0, []),
   (1, 3, .invokevirtual 81, 136, 800, 0, []),
   (4, 3, .ifCond .ne 5, 9, 0, 0, []),
   (7, 1, .iconst 0, 0, 0, 0, []),
   (8, 1, .ireturn, 0, 0, 0, []),
   (9, 1, .aload_n 0, 0, 0, 0, []),
   (10, 3, .invokevirtual 85, 132, 800, 0, []),
   (13, 2, .bipush 124, 0, 0, 124, []),
   (15, 3, .if_icmp .ne 32, 47, 0, 0, [])],
  [(18, 1, .aload_n 0, 0, 0, 0, []),
   (19, 1, .dup, 0, 0, 0, []),
   (20, 3, .getfield 71, 8, 5, 0, []),
   (23, 1, .iconst 1, 0, 0, 1, []),
   (24, 1, .iadd, 0, 0, 0, []),
   (25, 3, .putfield 71, 8, 5, 0, []),
   (28, 1, .aload_n 0, 0, 0, 0, []),
   (29, 3, .invokevirtual 81, 136, 800, 0, [])],
  [(32, 3, .ifCond .ne 5, 37, 0, 0, []),
   (35, 1, .iconst 0, 0, 0, 0, []),
   (36, 1, .ireturn, 0, 0, 0, []),
   (37, 1, .aload_n 0, 0, 0, 0, []),
   (38, 1, .iconst 3, 0, 0, 3, []),
   (39, 2, .bipush 124, 0, 0, 124, []),
   (41, 3, .invokevirtual 89, 134, 802, 0, []),
   (44, 3, .goto (-35), 9, 0, 0, []),
   (47, 1, .iconst 1, 0, 0, 1, [])],
  [(48, 1, .ireturn, 0, 0, 0, [])]]
def cd_136 : aCd := [
  [(0, 1, .aload_n 0, 0, 0, 0, []),
   (1, 3, .invokevirtual 93, 137, 800, 0, []),
   (4, 3, .ifCond .ne 5, 9, 0, 0, []),
   (7, 1, .iconst 0, 0, 0, 0, []),
   (8, 1, .ireturn, 0, 0, 0, []),
   (9, 1, .aload_n 0, 0, 0, 0, []),
   (10, 3, .invokevirtual 85, 132, 800, 0, []),
   (13, 2, .bipush 38, 0, 0, 38, []),
   (15, 3, .if_icmp .ne 32, 47, 0, 0, [])],
  [(18, 1, .aload_n 0, 0, 0, 0, []),
   (19, 1, .dup, 0, 0, 0, []),
   (20, 3, .getfield 71, 8, 5, 0, []),
   (23, 1, .iconst 1, 0, 0, 1, []),
   (24, 1, .iadd, 0, 0, 0, []),
   (25, 3, .putfield 71, 8, 5, 0, []),
   (28, 1, .aload_n 0, 0, 0, 0, []),
   (29, 3, .invokevirtual 93, 137, 800, 0, [])],
  [(32, 3, .ifCond .ne 5, 37, 0, 0, []),
   (35, 1, .iconst 0, 0, 0, 0, []),
   (36, 1, .ireturn, 0, 0, 0, []),
   (37, 1, .aload_n 0, 0, 0, 0, []),
   (38, 1, .iconst 3, 0, 0, 3, []),
   (39, 2, .bipush 38, 0, 0, 38, []),
   (41, 3, .invokevirtual 89, 134, 802, 0, []),
   (44, 3, .goto (-35), 9, 0, 0, []),
   (47, 1, .iconst 1, 0, 0, 1, [])],
  [(48, 1, .ireturn, 0, 0, 0, [])]]
def cd_137 : aCd := [
  [(0, 1, .aload_n 0, 0, 0, 0, []),
   (1, 3, .invokevirtual 96, 138, 800, 0, []),
   (4, 3, .ifCond .ne 5, 9, 0, 0, []),
   (7, 1, .iconst 0, 0, 0, 0, []),
   (8, 1, .ireturn, 0, 0, 0, []),
   (9, 1, .aload_n 0, 0, 0, 0, []),
   (10, 3, .invokevirtual 85, 132, 800, 0, []),
   (13, 1, .istore_n 1, 0, 0, 0, []),
   (14, 1, .iload_n 1, 0, 0, 0, []),
   (15, 2, .bipush 60, 0, 0, 60, [])],
  [(17, 3, .if_icmp .eq 17, 34, 0, 0, []),
   (20, 1, .iload_n 1, 0, 0, 0, []),
   (21, 2, .bipush 61, 0, 0, 61, []),
   (23, 3, .if_icmp .eq 11, 34, 0, 0, []),
   (26, 1, .iload_n 1, 0, 0, 0, []),
   (27, 2, .bipush 62, 0, 0, 62, []),
   (29, 3, .if_icmp .eq 5, 34, 0, 0, [])],
  [(32, 1, .iconst 1, 0, 0, 1, []),
   (33, 1, .ireturn, 0, 0, 0, []),
   (34, 1, .aload_n 0, 0, 0, 0, []),
   (35, 1, .dup, 0, 0, 0, []),
   (36, 3, .getfield 71, 8, 5, 0, []),
   (39, 1, .iconst 1, 0, 0, 1, []),
   (40, 1, .iadd, 0, 0, 0, []),
   (41, 3, .putfield 71, 8, 5, 0, []),
   (44, 1, .aload_n 0, 0, 0, 0, []),
   (45, 3, .invokevirtual 96, 138, 800, 0, [])],
  [(48, 3, .ifCond .ne 5, 53, 0, 0, []),
   (51, 1, .iconst 0, 0, 0, 0, []),
   (52, 1, .ireturn, 0, 0, 0, []),
   (53, 1, .aload_n 0, 0, 0, 0, []),
   (54, 1, .iconst 3, 0, 0, 3, []),
   (55, 1, .iload_n 1, 0, 0, 0, []),
   (56, 3, .invokevirtual 89, 134, 802, 0, []),
   (59, 1, .iconst 1, 0, 0, 1, []),
   (60, 1, .ireturn, 0, 0, 0, [])]]
def cd_138 : aCd := [
  [(0, 1, .aload_n 0, 0, 0, 0, []),
   (1, 3, .invokevirtual 99, 139, 800, 0, []),
   (4, 3, .ifCond .ne 5, 9, 0, 0, []),
   (7, 1, .iconst 0, 0, 0, 0, []),
   (8, 1, .ireturn, 0, 0, 0, []),
   (9, 1, .aload_n 0, 0, 0, 0, []),
   (10, 3, .invokevirtual 85, 132, 800, 0, []),
   (13, 2, .bipush 43, 0, 0, 43, []),
   (15, 3, .if_icmp .eq 12, 27, 0, 0, [])],
  [(18, 1, .aload_n 0, 0, 0, 0, []),
   (19, 3, .invokevirtual 85, 132, 800, 0, []),
   (22, 2, .bipush 45, 0, 0, 45, []),
   (24, 3, .if_icmp .ne 36, 60, 0, 0, []),
   (27, 1, .aload_n 0, 0, 0, 0, []),
   (28, 3, .invokevirtual 85, 132, 800, 0, []),
   (31, 1, .istore_n 1, 0, 0, 0, [])],
  [(32, 1, .aload_n 0, 0, 0, 0, []),
   (33, 1, .dup, 0, 0, 0, []),
   (34, 3, .getfield 71, 8, 5, 0, []),
   (37, 1, .iconst 1, 0, 0, 1, []),
   (38, 1, .iadd, 0, 0, 0, []),
   (39, 3, .putfield 71, 8, 5, 0, []),
   (42, 1, .aload_n 0, 0, 0, 0, []),
   (43, 3, .invokevirtual 99, 139, 800, 0, []),
   (46, 3, .ifCond .ne 5, 51, 0, 0, [])],
  [(49, 1, .iconst 0, 0, 0, 0, []),
   (50, 1, .ireturn, 0, 0, 0, []),
   (51, 1, .aload_n 0, 0, 0, 0, []),
   (52, 1, .iconst 3, 0, 0, 3, []),
   (53, 1, .iload_n 1, 0, 0, 0, []),
   (54, 3, .invokevirtual 89, 134, 802, 0, []),
   (57, 3, .goto (-48), 9, 0, 0, []),
   (60, 1, .iconst 1, 0, 0, 1, []),
   (61, 1, .ireturn, 0, 0, 0, [])]]
def cd_139 : aCd := [
  [(0, 1, .aload_n 0, 0, 0, 0, []),
   (1, 3, .invokevirtual 102, 141, 800, 0, []),
   (4, 3, .ifCond .ne 5, 9, 0, 0, []),
   (7, 1, .iconst 0, 0, 0, 0, []),
   (8, 1, .ireturn, 0, 0, 0, []),
   (9, 1, .aload_n 0, 0, 0, 0, []),
   (10, 3, .invokevirtual 85, 132, 800, 0, []),
   (13, 2, .bipush 42, 0, 0, 42, []),
   (15, 3, .if_icmp .eq 21, 36, 0, 0, [])],
  [(18, 1, .aload_n 0, 0, 0, 0, []),
   (19, 3, .invokevirtual 85, 132, 800, 0, []),
   (22, 2, .bipush 47, 0, 0, 47, []),
   (24, 3, .if_icmp .eq 12, 36, 0, 0, []),
   (27, 1, .aload_n 0, 0, 0, 0, []),
   (28, 3, .invokevirtual 85, 132, 800, 0, []),
   (31, 2, .bipush 37, 0, 0, 37, [])],
  [(33, 3, .if_icmp .ne 36, 69, 0, 0, []),
   (36, 1, .aload_n 0, 0, 0, 0, []),
   (37, 3, .invokevirtual 85, 132, 800, 0, []),
   (40, 1, .istore_n 1, 0, 0, 0, []),
   (41, 1, .aload_n 0, 0, 0, 0, []),
   (42, 1, .dup, 0, 0, 0, []),
   (43, 3, .getfield 71, 8, 5, 0, []),
   (46, 1, .iconst 1, 0, 0, 1, []),
   (47, 1, .iadd, 0, 0, 0, [])],
  [(48, 3, .putfield 71, 8, 5, 0, []),
   (51, 1, .aload_n 0, 0, 0, 0, []),
   (52, 3, .invokevirtual 102, 141, 800, 0, []),
   (55, 3, .ifCond .ne 5, 60, 0, 0, []),
   (58, 1, .iconst 0, 0, 0, 0, []),
   (59, 1, .ireturn, 0, 0, 0, []),
   (60, 1, .aload_n 0, 0, 0, 0, []),
   (61, 1, .iconst 3, 0, 0, 3, []),
   (62, 1, .iload_n 1, 0, 0, 0, []),
   (63, 3, .invokevirtual 89, 134, 802, 0, [])],
  [(66, 3, .goto (-57), 9, 0, 0, []),
   (69, 1, .iconst 1, 0, 0, 1, []),
   (70, 1, .ireturn, 0, 0, 0, [])]]
def cd_140 : aCd := [
  [(0, 1, .aload_n 0, 0, 0, 0, []),
   (1, 3, .getfield 105, 8, 6, 0, []),
   (4, 1, .iconst 5, 0, 0, 5, []),
   (5, 3, .if_icmp .ne 5, 10, 0, 0, []),
   (8, 1, .iconst 0, 0, 0, 0, []),
   (9, 1, .ireturn, 0, 0, 0, []),
   (10, 1, .aload_n 0, 0, 0, 0, []),
   (11, 1, .dup, 0, 0, 0, []),
   (12, 3, .getfield 105, 8, 6, 0, []),
   (15, 1, .iconst 1, 0, 0, 1, [])],
  [(16, 1, .iadd, 0, 0, 0, []),
   (17, 3, .putfield 105, 8, 6, 0, []),
   (20, 1, .aload_n 0, 0, 0, 0, []),
   (21, 1, .dup, 0, 0, 0, []),
   (22, 3, .getfield 71, 8, 5, 0, []),
   (25, 1, .iconst 1, 0, 0, 1, []),
   (26, 1, .iadd, 0, 0, 0, []),
   (27, 3, .putfield 71, 8, 5, 0, []),
   (30, 1, .iconst 1, 0, 0, 1, []),
   (31, 1, .ireturn, 0, 0, 0, [])]]
def cd_141 : aCd := [
  [(0, 1, .aload_n 0, 0, 0, 0, []),
   (1, 3, .invokevirtual 85, 132, 800, 0, []),
   (4, 1, .istore_n 1, 0, 0, 0, []),
   (5, 1, .aload_n 0, 0, 0, 0, []),
   (6, 1, .iload_n 1, 0, 0, 0, []),
   (7, 3, .invokevirtual 108, 133, 801, 0, []),
   (10, 3, .ifCond .eq 21, 31, 0, 0, []),
   (13, 1, .aload_n 0, 0, 0, 0, []),
   (14, 1, .dup, 0, 0, 0, []),
   (15, 3, .getfield 71, 8, 5, 0, [])],
  [(18, 1, .iconst 1, 0, 0, 1, []),
   (19, 1, .iadd, 0, 0, 0, []),
   (20, 3, .putfield 71, 8, 5, 0, []),
   (23, 1, .aload_n 0, 0, 0, 0, []),
   (24, 1, .iconst 1, 0, 0, 1, []),
   (25, 1, .iload_n 1, 0, 0, 0, []),
   (26, 3, .invokevirtual 89, 134, 802, 0, []),
   (29, 1, .iconst 1, 0, 0, 1, []),
   (30, 1, .ireturn, 0, 0, 0, []),
   (31, 1, .iload_n 1, 0, 0, 0, [])],
  [(32, 2, .bipush 48, 0, 0, 48, []),
   (34, 2, .bipush 57, 0, 0, 57, []),
   (36, 3, .invokestatic 53, 117, 3, 0, []),
   (39, 3, .ifCond .eq 63, 102, 0, 0, []),
   (42, 1, .iconst 0, 0, 0, 0, []),
   (43, 1, .istore_n 2, 0, 0, 0, []),
   (44, 1, .iconst 0, 0, 0, 0, []),
   (45, 1, .istore_n 3, 0, 0, 0, []),
   (46, 1, .iload_n 3, 0, 0, 0, []),
   (47, 1, .iconst 4, 0, 0, 4, [])],
  [(48, 3, .if_icmp .ge 46, 94, 0, 0, []),
   (51, 1, .aload_n 0, 0, 0, 0, []),
   (52, 3, .invokevirtual 85, 132, 800, 0, []),
   (55, 2, .bipush 48, 0, 0, 48, []),
   (57, 2, .bipush 57, 0, 0, 57, []),
   (59, 3, .invokestatic 53, 117, 3, 0, []),
   (62, 3, .ifCond .eq 32, 94, 0, 0, [])],
  [(65, 2, .bipush 10, 0, 0, 10, []),
   (67, 1, .iload_n 2, 0, 0, 0, []),
   (68, 1, .imul, 0, 0, 0, []),
   (69, 1, .aload_n 0, 0, 0, 0, []),
   (70, 3, .invokevirtual 85, 132, 800, 0, []),
   (73, 1, .iadd, 0, 0, 0, []),
   (74, 2, .bipush 48, 0, 0, 48, []),
   (76, 1, .isub, 0, 0, 0, []),
   (77, 1, .istore_n 2, 0, 0, 0, []),
   (78, 1, .aload_n 0, 0, 0, 0, []),
   (79, 1, .dup, 0, 0, 0, [])],
  [(80, 3, .getfield 71, 8, 5, 0, []),
   (83, 1, .iconst 1, 0, 0, 1, []),
   (84, 1, .iadd, 0, 0, 0, []),
   (85, 3, .putfield 71, 8, 5, 0, []),
   (88, 3, .iinc 3 1, 0, 0, 1, []),
   (91, 3, .goto (-45), 46, 0, 0, []),
   (94, 1, .aload_n 0, 0, 0, 0, []),
   (95, 1, .iconst 0, 0, 0, 0, [])],
  [(96, 1, .iload_n 2, 0, 0, 0, []),
   (97, 3, .invokevirtual 89, 134, 802, 0, []),
   (100, 1, .iconst 1, 0, 0, 1, []),
   (101, 1, .ireturn, 0, 0, 0, []),
   (102, 1, .iload_n 1, 0, 0, 0, []),
   (103, 2, .bipush 33, 0, 0, 33, []),
   (105, 3, .if_icmp .ne 37, 142, 0, 0, []),
   (108, 1, .aload_n 0, 0, 0, 0, []),
   (109, 3, .invokevirtual 111, 140, 800, 0, [])],
  [(112, 3, .ifCond .eq 10, 122, 0, 0, []),
   (115, 1, .aload_n 0, 0, 0, 0, []),
   (116, 3, .invokevirtual 102, 141, 800, 0, []),
   (119, 3, .ifCond .ne 5, 124, 0, 0, []),
   (122, 1, .iconst 0, 0, 0, 0, []),
   (123, 1, .ireturn, 0, 0, 0, []),
   (124, 1, .aload_n 0, 0, 0, 0, []),
   (125, 1, .dup, 0, 0, 0, []),
   (126, 3, .getfield 105, 8, 6, 0, [])],
  [(129, 1, .iconst 1, 0, 0, 1, []),
   (130, 1, .isub, 0, 0, 0, []),
   (131, 3, .putfield 105, 8, 6, 0, []),
   (134, 1, .aload_n 0, 0, 0, 0, []),
   (135, 1, .iconst 2, 0, 0, 2, []),
   (136, 1, .iconst 0, 0, 0, 0, []),
   (137, 3, .invokevirtual 89, 134, 802, 0, []),
   (140, 1, .iconst 1, 0, 0, 1, []),
   (141, 1, .ireturn, 0, 0, 0, []),
   (142, 1, .iload_n 1, 0, 0, 0, []),
   (143, 2, .bipush 40, 0, 0, 40, [])],
  [(145, 3, .if_icmp .ne 26, 171, 0, 0, []),
   (148, 1, .aload_n 0, 0, 0, 0, []),
   (149, 3, .invokevirtual 111, 140, 800, 0, []),
   (152, 3, .ifCond .eq 19, 171, 0, 0, []),
   (155, 1, .aload_n 0, 0, 0, 0, []),
   (156, 3, .invokevirtual 114, 135, 800, 0, []),
   (159, 3, .ifCond .eq 12, 171, 0, 0, [])],
  [(162, 1, .aload_n 0, 0, 0, 0, []),
   (163, 3, .invokevirtual 85, 132, 800, 0, []),
   (166, 2, .bipush 41, 0, 0, 41, []),
   (168, 3, .if_icmp .eq 5, 173, 0, 0, []),
   (171, 1, .iconst 0, 0, 0, 0, []),
   (172, 1, .ireturn, 0, 0, 0, []),
   (173, 1, .aload_n 0, 0, 0, 0, []),
   (174, 1, .dup, 0, 0, 0, []),
   (175, 3, .getfield 71, 8, 5, 0, [])],
  [(178, 1, .iconst 1, 0, 0, 1, []),
   (179, 1, .iadd, 0, 0, 0, []),
   (180, 3, .putfield 71, 8, 5, 0, []),
   (183, 1, .aload_n 0, 0, 0, 0, []),
   (184, 1, .dup, 0, 0, 0, []),
   (185, 3, .getfield 105, 8, 6, 0, []),
   (188, 1, .iconst 1, 0, 0, 1, []),
   (189, 1, .isub, 0, 0, 0, []),
   (190, 3, .putfield 105, 8, 6, 0, [])],
  [(193, 1, .iconst 1, 0, 0, 1, []),
   (194, 1, .ireturn, 0, 0, 0, [])]]
def cd_142 : aCd := [
  [(0, 1, .aload_n 0, 0, 0, 0, []),
   (1, 3, .getfield 7, 8, 0, 0, []),
   (4, 2, .bipush 120, 0, 0, 120, []),
   (6, 2, .bipush 125, 0, 0, 125, []),
   (8, 1, .iload_n 1, 0, 0, 0, []),
   (9, 1, .imul, 0, 0, 0, []),
   (10, 1, .iadd, 0, 0, 0, []),
   (11, 1, .iaload, 0, 0, 0, []),
   (12, 3, .ifCond .le 7, 19, 0, 0, []),
   (15, 1, .iconst 1, 0, 0, 1, [])],
  [(16, 3, .goto 4, 20, 0, 0, []),
   (19, 1, .iconst 0, 0, 0, 0, []),
   (20, 1, .ireturn, 0, 0, 0, [])]]
def cd_143 : aCd := [
  [(0, 1, .iload_n 1, 0, 0, 0, []),
   (1, 1, .iconst 0, 0, 0, 0, []),
   (2, 1, .iconst 1, 0, 0, 1, []),
   (3, 3, .invokestatic 53, 117, 3, 0, []),
   (6, 3, .ifCond .ne 9, 15, 0, 0, []),
   (9, 1, .aload_n 0, 0, 0, 0, []),
   (10, 1, .iconst 1, 0, 0, 1, []),
   (11, 3, .invokevirtual 65, 116, 801, 0, []),
   (14, 1, .ireturn, 0, 0, 0, []),
   (15, 1, .aload_n 0, 0, 0, 0, [])],
  [(16, 1, .iload_n 1, 0, 0, 0, []),
   (17, 3, .putfield 75, 8, 8, 0, []),
   (20, 1, .aload_n 0, 0, 0, 0, []),
   (21, 1, .iconst 0, 0, 0, 0, []),
   (22, 3, .putfield 71, 8, 5, 0, []),
   (25, 1, .aload_n 0, 0, 0, 0, []),
   (26, 1, .iconst 0, 0, 0, 0, []),
   (27, 3, .putfield 105, 8, 6, 0, []),
   (30, 1, .aload_n 0, 0, 0, 0, []),
   (31, 1, .iconst 0, 0, 0, 0, [])],
  [(32, 3, .putfield 78, 8, 7, 0, []),
   (35, 1, .aload_n 0, 0, 0, 0, []),
   (36, 3, .invokevirtual 114, 135, 800, 0, []),
   (39, 3, .ifCond .eq 20, 59, 0, 0, []),
   (42, 1, .aload_n 0, 0, 0, 0, []),
   (43, 3, .getfield 71, 8, 5, 0, []),
   (46, 1, .aload_n 0, 0, 0, 0, []),
   (47, 3, .getfield 7, 8, 0, 0, [])],
  [(50, 1, .iconst 5, 0, 0, 5, []),
   (51, 1, .iaload, 0, 0, 0, []),
   (52, 3, .if_icmp .ne 7, 59, 0, 0, []),
   (55, 1, .iconst 1, 0, 0, 1, []),
   (56, 3, .goto 4, 60, 0, 0, []),
   (59, 1, .iconst 0, 0, 0, 0, []),
   (60, 1, .istore_n 2, 0, 0, 0, []),
   (61, 1, .aload_n 0, 0, 0, 0, []),
   (62, 3, .getfield 7, 8, 0, 0, [])],
  [(65, 1, .iconst 5, 0, 0, 5, []),
   (66, 1, .iconst 0, 0, 0, 0, []),
   (67, 1, .iastore, 0, 0, 0, []),
   (68, 1, .iload_n 2, 0, 0, 0, []),
   (69, 3, .ifCond .ne 11, 80, 0, 0, []),
   (72, 2, .bipush (-10), 0, 0, -10, []),
   (74, 1, .aload_n 0, 0, 0, 0, []),
   (75, 3, .getfield 71, 8, 5, 0, []),
   (78, 1, .isub, 0, 0, 0, []),
   (79, 1, .ireturn, 0, 0, 0, [])],
  [(80, 2, .bipush 120, 0, 0, 120, []),
   (82, 2, .bipush 125, 0, 0, 125, []),
   (84, 1, .iload_n 1, 0, 0, 0, []),
   (85, 1, .imul, 0, 0, 0, []),
   (86, 1, .iadd, 0, 0, 0, []),
   (87, 1, .istore_n 3, 0, 0, 0, []),
   (88, 1, .aload_n 0, 0, 0, 0, []),
   (89, 3, .getfield 7, 8, 0, 0, []),
   (92, 1, .iload_n 3, 0, 0, 0, []),
   (93, 1, .aload_n 0, 0, 0, 0, []),
   (94, 3, .getfield 78, 8, 7, 0, [])],
  [(97, 1, .iastore, 0, 0, 0, []),
   (98, 1, .iconst 0, 0, 0, 0, []),
   (99, 2, .istore 4, 0, 0, 0, []),
   (101, 2, .iload 4, 0, 0, 0, []),
   (103, 1, .iconst 2, 0, 0, 2, []),
   (104, 1, .aload_n 0, 0, 0, 0, []),
   (105, 3, .getfield 78, 8, 7, 0, []),
   (108, 1, .imul, 0, 0, 0, []),
   (109, 3, .if_icmp .ge 27, 136, 0, 0, [])],
  [(112, 1, .aload_n 0, 0, 0, 0, []),
   (113, 3, .getfield 7, 8, 0, 0, []),
   (116, 1, .iload_n 3, 0, 0, 0, []),
   (117, 1, .iconst 1, 0, 0, 1, []),
   (118, 1, .iadd, 0, 0, 0, []),
   (119, 2, .iload 4, 0, 0, 0, []),
   (121, 1, .iadd, 0, 0, 0, []),
   (122, 1, .aload_n 0, 0, 0, 0, []),
   (123, 3, .getfield 22, 8, 9, 0, []),
   (126, 2, .iload 4, 0, 0, 0, [])],
  [(128, 1, .iaload, 0, 0, 0, []),
   (129, 1, .iastore, 0, 0, 0, []),
   (130, 3, .iinc 4 1, 0, 0, 1, []),
   (133, 3, .goto (-32), 101, 0, 0, []),
   (136, 1, .iconst 1, 0, 0, 1, []),
   (137, 1, .ireturn, 0, 0, 0, [])]]
def cd_144 : aCd := [
  [(0, 1, .iload_n 1, 0, 0, 0, []),
   (1, 1, .iconst 0, 0, 0, 0, []),
   (2, 1, .iconst 1, 0, 0, 1, []),
   (3, 3, .invokestatic 53, 117, 3, 0, []),
   (6, 3, .ifCond .ne 9, 15, 0, 0, []),
   (9, 1, .aload_n 0, 0, 0, 0, []),
   (10, 1, .iconst 1, 0, 0, 1, []),
   (11, 3, .invokevirtual 65, 116, 801, 0, []),
   (14, 1, .ireturn, 0, 0, 0, []),
   (15, 1, .aload_n 0, 0, 0, 0, [])],
  [(16, 1, .iload_n 1, 0, 0, 0, []),
   (17, 3, .invokevirtual 117, 142, 801, 0, []),
   (20, 3, .ifCond .eq 7, 27, 0, 0, []),
   (23, 1, .iconst 1, 0, 0, 1, []),
   (24, 3, .goto 4, 28, 0, 0, []),
   (27, 1, .iconst 0, 0, 0, 0, []),
   (28, 1, .istore_n 2, 0, 0, 0, []),
   (29, 1, .aload_n 0, 0, 0, 0, []),
   (30, 3, .getfield 7, 8, 0, 0, [])],
  [(33, 2, .bipush 120, 0, 0, 120, []),
   (35, 2, .bipush 125, 0, 0, 125, []),
   (37, 1, .iload_n 1, 0, 0, 0, []),
   (38, 1, .imul, 0, 0, 0, []),
   (39, 1, .iadd, 0, 0, 0, []),
   (40, 1, .iconst 0, 0, 0, 0, []),
   (41, 1, .iastore, 0, 0, 0, []),
   (42, 1, .iload_n 2, 0, 0, 0, []),
   (43, 1, .ireturn, 0, 0, 0, [])]]
def cd_145 : aCd := [
  [(0, 1, .iload_n 0, 0, 0, 0, []),
   (1, 119, .tableswitch 217 37 62 #[153, 203, 217, 217, 217, 127, 119, 217, 123, 217, 131, 217, 217, 217, 217, 217, 217, 217, 217, 217, 217, 217, 217, 170, 192, 181], 218, 0, 0, [(37, 154), (38, 204), (39, 218), (40, 218), (41, 218), (42, 128), (43, 120), (44, 218), (45, 124), (46, 218), (47, 132), (48, 218), (49, 218), (50, 218), (51, 218), (52, 218), (53, 218), (54, 218), (55, 218), (56, 218), (57, 218), (58, 218), (59, 218), (60, 171), (61, 193), (62, 182)])],
  [],
  [],
  [],
  [],
  [],
  [],
  [(120, 1, .iload_n 1, 0, 0, 0, []),
   (121, 1, .iload_n 2, 0, 0, 0, []),
   (122, 1, .iadd, 0, 0, 0, []),
   (123, 1, .ireturn, 0, 0, 0, []),
   (124, 1, .iload_n 1, 0, 0, 0, []),
   (125, 1, .iload_n 2, 0, 0, 0, []),
   (126, 1, .isub, 0, 0, 0, []),
   (127, 1, .ireturn, 0, 0, 0, [])],
  [(128, 1, .iload_n 1, 0, 0, 0, []),
   (129, 1, .iload_n 2, 0, 0, 0, []),
   (130, 1, .imul, 0, 0, 0, []),
   (131, 1, .ireturn, 0, 0, 0, []),
   (132, 1, .iload_n 2, 0, 0, 0, []),
   (133, 3, .ifCond .ne 7, 140, 0, 0, []),
   (136, 1, .iconst 0, 0, 0, 0, []),
   (137, 3, .goto 16, 153, 0, 0, []),
   (140, 1, .iload_n 2, 0, 0, 0, []),
   (141, 1, .iconst (-1), 0, 0, -1, []),
   (142, 3, .if_icmp .ne 8, 150, 0, 0, [])],
  [(145, 1, .iload_n 1, 0, 0, 0, []),
   (146, 1, .ineg, 0, 0, 0, []),
   (147, 3, .goto 6, 153, 0, 0, []),
   (150, 1, .iload_n 1, 0, 0, 0, []),
   (151, 1, .iload_n 2, 0, 0, 0, []),
   (152, 1, .idiv, 0, 0, 0, []),
   (153, 1, .ireturn, 0, 0, 0, []),
   (154, 1, .iload_n 2, 0, 0, 0, []),
   (155, 3, .ifCond .eq 8, 163, 0, 0, []),
   (158, 1, .iload_n 2, 0, 0, 0, []),
   (159, 1, .iconst (-1), 0, 0, -1, [])],
  [(160, 3, .if_icmp .ne 7, 167, 0, 0, []),
   (163, 1, .iconst 0, 0, 0, 0, []),
   (164, 3, .goto 6, 170, 0, 0, []),
   (167, 1, .iload_n 1, 0, 0, 0, []),
   (168, 1, .iload_n 2, 0, 0, 0, []),
   (169, 1, .irem, 0, 0, 0, []),
   (170, 1, .ireturn, 0, 0, 0, []),
   (171, 1, .iload_n 1, 0, 0, 0, []),
   (172, 1, .iload_n 2, 0, 0, 0, []),
   (173, 3, .if_icmp .ge 7, 180, 0, 0, [])],
  [(176, 1, .iconst 1, 0, 0, 1, []),
   (177, 3, .goto 4, 181, 0, 0, []),
   (180, 1, .iconst 0, 0, 0, 0, []),
   (181, 1, .ireturn, 0, 0, 0, []),
   (182, 1, .iload_n 1, 0, 0, 0, []),
   (183, 1, .iload_n 2, 0, 0, 0, []),
   (184, 3, .if_icmp .le 7, 191, 0, 0, []),
   (187, 1, .iconst 1, 0, 0, 1, []),
   (188, 3, .goto 4, 192, 0, 0, []),
   (191, 1, .iconst 0, 0, 0, 0, [])],
  [(192, 1, .ireturn, 0, 0, 0, []),
   (193, 1, .iload_n 1, 0, 0, 0, []),
   (194, 1, .iload_n 2, 0, 0, 0, []),
   (195, 3, .if_icmp .ne 7, 202, 0, 0, []),
   (198, 1, .iconst 1, 0, 0, 1, []),
   (199, 3, .goto 4, 203, 0, 0, []),
   (202, 1, .iconst 0, 0, 0, 0, []),
   (203, 1, .ireturn, 0, 0, 0, []),
   (204, 1, .iload_n 1, 0, 0, 0, []),
   (205, 3, .ifCond .eq 11, 216, 0, 0, [])],
  [(208, 1, .iload_n 2, 0, 0, 0, []),
   (209, 3, .ifCond .eq 7, 216, 0, 0, []),
   (212, 1, .iconst 1, 0, 0, 1, []),
   (213, 3, .goto 4, 217, 0, 0, []),
   (216, 1, .iconst 0, 0, 0, 0, []),
   (217, 1, .ireturn, 0, 0, 0, []),
   (218, 1, .iload_n 1, 0, 0, 0, []),
   (219, 3, .ifCond .ne 7, 226, 0, 0, []),
   (222, 1, .iload_n 2, 0, 0, 0, []),
   (223, 3, .ifCond .eq 7, 230, 0, 0, [])],
  [(226, 1, .iconst 1, 0, 0, 1, []),
   (227, 3, .goto 4, 231, 0, 0, []),
   (230, 1, .iconst 0, 0, 0, 0, []),
   (231, 1, .ireturn, 0, 0, 0, [])]]
def cd_146 : aCd := [
  [(0, 2, .bipush 120, 0, 0, 120, []),
   (2, 2, .bipush 125, 0, 0, 125, []),
   (4, 1, .iload_n 1, 0, 0, 0, []),
   (5, 1, .imul, 0, 0, 0, []),
   (6, 1, .iadd, 0, 0, 0, []),
   (7, 1, .istore_n 2, 0, 0, 0, []),
   (8, 1, .iconst 0, 0, 0, 0, []),
   (9, 1, .istore_n 3, 0, 0, 0, []),
   (10, 1, .iconst 0, 0, 0, 0, []),
   (11, 2, .istore 4, 0, 0, 0, []),
   (13, 2, .iload 4, 0, 0, 0, []),
   (15, 1, .aload_n 0, 0, 0, 0, [])],
  [(16, 3, .getfield 7, 8, 0, 0, []),
   (19, 1, .iload_n 2, 0, 0, 0, []),
   (20, 1, .iaload, 0, 0, 0, []),
   (21, 3, .if_icmp .ge 142, 163, 0, 0, []),
   (24, 1, .aload_n 0, 0, 0, 0, []),
   (25, 3, .getfield 7, 8, 0, 0, []),
   (28, 1, .iload_n 2, 0, 0, 0, []),
   (29, 1, .iconst 1, 0, 0, 1, []),
   (30, 1, .iadd, 0, 0, 0, []),
   (31, 1, .iconst 2, 0, 0, 2, [])],
  [(32, 2, .iload 4, 0, 0, 0, []),
   (34, 1, .imul, 0, 0, 0, []),
   (35, 1, .iadd, 0, 0, 0, []),
   (36, 1, .iaload, 0, 0, 0, []),
   (37, 2, .istore 5, 0, 0, 0, []),
   (39, 1, .aload_n 0, 0, 0, 0, []),
   (40, 3, .getfield 7, 8, 0, 0, []),
   (43, 1, .iload_n 2, 0, 0, 0, []),
   (44, 1, .iconst 2, 0, 0, 2, []),
   (45, 1, .iadd, 0, 0, 0, []),
   (46, 1, .iconst 2, 0, 0, 2, []),
   (47, 2, .iload 4, 0, 0, 0, [])],
  [(49, 1, .imul, 0, 0, 0, []),
   (50, 1, .iadd, 0, 0, 0, []),
   (51, 1, .iaload, 0, 0, 0, []),
   (52, 2, .istore 6, 0, 0, 0, []),
   (54, 2, .iload 5, 0, 0, 0, []),
   (56, 3, .ifCond .eq 9, 65, 0, 0, []),
   (59, 2, .iload 5, 0, 0, 0, []),
   (61, 1, .iconst 1, 0, 0, 1, []),
   (62, 3, .if_icmp .ne 32, 94, 0, 0, [])],
  [(65, 1, .aload_n 0, 0, 0, 0, []),
   (66, 3, .getfield 28, 8, 11, 0, []),
   (69, 1, .iload_n 3, 0, 0, 0, []),
   (70, 2, .iload 5, 0, 0, 0, []),
   (72, 3, .ifCond .ne 8, 80, 0, 0, []),
   (75, 2, .iload 6, 0, 0, 0, []),
   (77, 3, .goto 10, 87, 0, 0, [])],
  [(80, 1, .aload_n 0, 0, 0, 0, []),
   (81, 3, .getfield 25, 8, 10, 0, []),
   (84, 2, .iload 6, 0, 0, 0, []),
   (86, 1, .iaload, 0, 0, 0, []),
   (87, 1, .iastore, 0, 0, 0, []),
   (88, 3, .iinc 3 1, 0, 0, 1, []),
   (91, 3, .goto 66, 157, 0, 0, []),
   (94, 2, .iload 5, 0, 0, 0, [])],
  [(96, 1, .iconst 2, 0, 0, 2, []),
   (97, 3, .if_icmp .ne 30, 127, 0, 0, []),
   (100, 1, .aload_n 0, 0, 0, 0, []),
   (101, 3, .getfield 28, 8, 11, 0, []),
   (104, 1, .iload_n 3, 0, 0, 0, []),
   (105, 1, .iconst 1, 0, 0, 1, []),
   (106, 1, .isub, 0, 0, 0, []),
   (107, 1, .aload_n 0, 0, 0, 0, []),
   (108, 3, .getfield 28, 8, 11, 0, []),
   (111, 1, .iload_n 3, 0, 0, 0, [])],
  [(112, 1, .iconst 1, 0, 0, 1, []),
   (113, 1, .isub, 0, 0, 0, []),
   (114, 1, .iaload, 0, 0, 0, []),
   (115, 3, .ifCond .ne 7, 122, 0, 0, []),
   (118, 1, .iconst 1, 0, 0, 1, []),
   (119, 3, .goto 4, 123, 0, 0, []),
   (122, 1, .iconst 0, 0, 0, 0, []),
   (123, 1, .iastore, 0, 0, 0, []),
   (124, 3, .goto 33, 157, 0, 0, []),
   (127, 3, .iinc 3 (-1), 0, 0, -1, [])],
  [(130, 1, .aload_n 0, 0, 0, 0, []),
   (131, 3, .getfield 28, 8, 11, 0, []),
   (134, 1, .iload_n 3, 0, 0, 0, []),
   (135, 1, .iconst 1, 0, 0, 1, []),
   (136, 1, .isub, 0, 0, 0, []),
   (137, 2, .iload 6, 0, 0, 0, []),
   (139, 1, .aload_n 0, 0, 0, 0, []),
   (140, 3, .getfield 28, 8, 11, 0, []),
   (143, 1, .iload_n 3, 0, 0, 0, [])],
  [(144, 1, .iconst 1, 0, 0, 1, []),
   (145, 1, .isub, 0, 0, 0, []),
   (146, 1, .iaload, 0, 0, 0, []),
   (147, 1, .aload_n 0, 0, 0, 0, []),
   (148, 3, .getfield 28, 8, 11, 0, []),
   (151, 1, .iload_n 3, 0, 0, 0, []),
   (152, 1, .iaload, 0, 0, 0, []),
   (153, 3, .invokestatic 120, 145, 3, 0, []),
   (156, 1, .iastore, 0, 0, 0, []),
   (157, 3, .iinc 4 1, 0, 0, 1, [])],
  [(160, 3, .goto (-147), 13, 0, 0, []),
   (163, 1, .aload_n 0, 0, 0, 0, []),
   (164, 3, .getfield 28, 8, 11, 0, []),
   (167, 1, .iconst 0, 0, 0, 0, []),
   (168, 1, .iaload, 0, 0, 0, []),
   (169, 1, .ireturn, 0, 0, 0, [])]]
def cd_147 : aCd := [
  [(0, 1, .aload_n 0, 0, 0, 0, []),
   (1, 3, .getfield 25, 8, 10, 0, []),
   (4, 2, .bipush 108, 0, 0, 108, []),
   (6, 1, .iload_n 1, 0, 0, 0, []),
   (7, 1, .iastore, 0, 0, 0, []),
   (8, 1, .aload_n 0, 0, 0, 0, []),
   (9, 3, .getfield 25, 8, 10, 0, []),
   (12, 2, .bipush 111, 0, 0, 111, []),
   (14, 1, .iload_n 2, 0, 0, 0, []),
   (15, 1, .iastore, 0, 0, 0, [])],
  [(16, 1, .aload_n 0, 0, 0, 0, []),
   (17, 3, .getfield 25, 8, 10, 0, []),
   (20, 2, .bipush 97, 0, 0, 97, []),
   (22, 1, .iload_n 3, 0, 0, 0, []),
   (23, 1, .iastore, 0, 0, 0, []),
   (24, 1, .aload_n 0, 0, 0, 0, []),
   (25, 1, .iconst 0, 0, 0, 0, []),
   (26, 3, .invokevirtual 117, 142, 801, 0, []),
   (29, 3, .ifCond .eq 11, 40, 0, 0, [])],
  [(32, 1, .aload_n 0, 0, 0, 0, []),
   (33, 1, .iconst 0, 0, 0, 0, []),
   (34, 3, .invokevirtual 124, 146, 801, 0, []),
   (37, 3, .goto 14, 51, 0, 0, []),
   (40, 2, .bipush 20, 0, 0, 20, []),
   (42, 2, .bipush 10, 0, 0, 10, []),
   (44, 1, .iload_n 2, 0, 0, 0, []),
   (45, 1, .imul, 0, 0, 0, []),
   (46, 1, .iadd, 0, 0, 0, []),
   (47, 1, .iconst 3, 0, 0, 3, [])],
  [(48, 1, .iload_n 3, 0, 0, 0, []),
   (49, 1, .imul, 0, 0, 0, []),
   (50, 1, .isub, 0, 0, 0, []),
   (51, 1, .iconst 0, 0, 0, 0, []),
   (52, 2, .bipush 99, 0, 0, 99, []),
   (54, 3, .invokestatic 127, 118, 3, 0, []),
   (57, 1, .ireturn, 0, 0, 0, [])]]
def cd_148 : aCd := [
  [(0, 1, .aload_n 0, 0, 0, 0, []),
   (1, 3, .getfield 25, 8, 10, 0, []),
   (4, 2, .bipush 108, 0, 0, 108, []),
   (6, 1, .iload_n 1, 0, 0, 0, []),
   (7, 1, .iastore, 0, 0, 0, []),
   (8, 1, .aload_n 0, 0, 0, 0, []),
   (9, 3, .getfield 25, 8, 10, 0, []),
   (12, 2, .bipush 115, 0, 0, 115, []),
   (14, 1, .iload_n 2, 0, 0, 0, []),
   (15, 1, .iastore, 0, 0, 0, [])],
  [(16, 1, .aload_n 0, 0, 0, 0, []),
   (17, 3, .getfield 25, 8, 10, 0, []),
   (20, 2, .bipush 111, 0, 0, 111, []),
   (22, 1, .iload_n 3, 0, 0, 0, []),
   (23, 1, .iastore, 0, 0, 0, []),
   (24, 1, .aload_n 0, 0, 0, 0, []),
   (25, 1, .iconst 1, 0, 0, 1, []),
   (26, 3, .invokevirtual 117, 142, 801, 0, []),
   (29, 3, .ifCond .eq 11, 40, 0, 0, [])],
  [(32, 1, .aload_n 0, 0, 0, 0, []),
   (33, 1, .iconst 1, 0, 0, 1, []),
   (34, 3, .invokevirtual 124, 146, 801, 0, []),
   (37, 3, .goto 12, 49, 0, 0, []),
   (40, 2, .bipush 10, 0, 0, 10, []),
   (42, 1, .iload_n 1, 0, 0, 0, []),
   (43, 1, .imul, 0, 0, 0, []),
   (44, 2, .bipush 20, 0, 0, 20, []),
   (46, 1, .iload_n 2, 0, 0, 0, []),
   (47, 1, .imul, 0, 0, 0, [])],
  [(48, 1, .iadd, 0, 0, 0, []),
   (49, 1, .iconst 0, 0, 0, 0, []),
   (50, 2, .bipush 99, 0, 0, 99, []),
   (52, 3, .invokestatic 127, 118, 3, 0, []),
   (55, 1, .ireturn, 0, 0, 0, [])]]
def cd_149 : aCd := [
  [(0, 1, .aload_n 0, 0, 0, 0, []),
   (1, 1, .aload_n 0, 0, 0, 0, []),
   (2, 1, .iload_n 1, 0, 0, 0, []),
   (3, 1, .iconst 1, 0, 0, 1, []),
   (4, 3, .invokevirtual 57, 126, 802, 0, []),
   (7, 1, .aload_n 0, 0, 0, 0, []),
   (8, 1, .iload_n 1, 0, 0, 0, []),
   (9, 1, .iconst 2, 0, 0, 2, []),
   (10, 3, .invokevirtual 57, 126, 802, 0, []),
   (13, 1, .aload_n 0, 0, 0, 0, []),
   (14, 1, .iload_n 1, 0, 0, 0, []),
   (15, 1, .iconst 3, 0, 0, 3, [])],
  [(16, 3, .invokevirtual 57, 126, 802, 0, []),
   (19, 3, .invokevirtual 130, 147, 803, 0, []),
   (22, 1, .ireturn, 0, 0, 0, [])]]
def cd_150 : aCd := [
  [(0, 1, .aload_n 0, 0, 0, 0, []),
   (1, 1, .aload_n 0, 0, 0, 0, []),
   (2, 1, .iload_n 1, 0, 0, 0, []),
   (3, 1, .iconst 1, 0, 0, 1, []),
   (4, 3, .invokevirtual 57, 126, 802, 0, []),
   (7, 1, .iload_n 2, 0, 0, 0, []),
   (8, 1, .aload_n 0, 0, 0, 0, []),
   (9, 1, .iload_n 1, 0, 0, 0, []),
   (10, 1, .iconst 2, 0, 0, 2, []),
   (11, 3, .invokevirtual 57, 126, 802, 0, []),
   (14, 3, .invokevirtual 133, 148, 803, 0, [])],
  [(17, 1, .ireturn, 0, 0, 0, [])]]
def cd_151 : aCd := [
  [(0, 1, .iload_n 2, 0, 0, 0, []),
   (1, 3, .ifCond .eq 15, 16, 0, 0, []),
   (4, 2, .bipush 50, 0, 0, 50, []),
   (6, 1, .aload_n 0, 0, 0, 0, []),
   (7, 1, .iload_n 1, 0, 0, 0, []),
   (8, 1, .iconst 2, 0, 0, 2, []),
   (9, 3, .invokevirtual 136, 124, 802, 0, []),
   (12, 1, .iadd, 0, 0, 0, []),
   (13, 3, .goto 4, 17, 0, 0, [])],
  [(16, 1, .iconst 0, 0, 0, 0, []),
   (17, 1, .ireturn, 0, 0, 0, [])]]
def cd_152 : aCd := [
  [(0, 1, .aload_n 0, 0, 0, 0, []),
   (1, 1, .iload_n 2, 0, 0, 0, []),
   (2, 3, .invokevirtual 139, 149, 801, 0, []),
   (5, 1, .aload_n 0, 0, 0, 0, []),
   (6, 1, .iload_n 1, 0, 0, 0, []),
   (7, 1, .iconst 2, 0, 0, 2, []),
   (8, 3, .invokevirtual 136, 124, 802, 0, []),
   (11, 1, .iconst 2, 0, 0, 2, []),
   (12, 1, .idiv, 0, 0, 0, []),
   (13, 1, .iadd, 0, 0, 0, []),
   (14, 2, .bipush 20, 0, 0, 20, [])],
  [(16, 1, .isub, 0, 0, 0, []),
   (17, 2, .istore 4, 0, 0, 0, []),
   (19, 1, .iload_n 3, 0, 0, 0, []),
   (20, 3, .ifCond .eq 12, 32, 0, 0, []),
   (23, 1, .aload_n 0, 0, 0, 0, []),
   (24, 1, .iload_n 1, 0, 0, 0, []),
   (25, 1, .iconst 1, 0, 0, 1, []),
   (26, 3, .invokevirtual 142, 151, 802, 0, []),
   (29, 3, .goto 14, 43, 0, 0, [])],
  [(32, 2, .iload 4, 0, 0, 0, []),
   (34, 3, .ifCond .ge 7, 41, 0, 0, []),
   (37, 1, .iconst 0, 0, 0, 0, []),
   (38, 3, .goto 5, 43, 0, 0, []),
   (41, 2, .iload 4, 0, 0, 0, []),
   (43, 1, .ireturn, 0, 0, 0, [])]]
def cd_153 : aCd := [
  [(0, 1, .iload_n 3, 0, 0, 0, []),
   (1, 3, .ifCond .ne 12, 13, 0, 0, []),
   (4, 1, .aload_n 0, 0, 0, 0, []),
   (5, 1, .iload_n 1, 0, 0, 0, []),
   (6, 1, .iconst 3, 0, 0, 3, []),
   (7, 3, .invokevirtual 136, 124, 802, 0, []),
   (10, 3, .ifCond .ne 7, 17, 0, 0, []),
   (13, 1, .iconst 1, 0, 0, 1, []),
   (14, 3, .goto 4, 18, 0, 0, [])],
  [(17, 1, .iconst 0, 0, 0, 0, []),
   (18, 2, .istore 4, 0, 0, 0, []),
   (20, 2, .iload 4, 0, 0, 0, []),
   (22, 3, .ifCond .eq 12, 34, 0, 0, []),
   (25, 1, .aload_n 0, 0, 0, 0, []),
   (26, 1, .iload_n 1, 0, 0, 0, []),
   (27, 1, .iload_n 3, 0, 0, 0, []),
   (28, 3, .invokevirtual 142, 151, 802, 0, []),
   (31, 3, .goto 20, 51, 0, 0, [])],
  [(34, 2, .bipush 15, 0, 0, 15, []),
   (36, 1, .aload_n 0, 0, 0, 0, []),
   (37, 1, .iload_n 1, 0, 0, 0, []),
   (38, 1, .iconst 3, 0, 0, 3, []),
   (39, 3, .invokevirtual 136, 124, 802, 0, []),
   (42, 1, .imul, 0, 0, 0, []),
   (43, 1, .aload_n 0, 0, 0, 0, []),
   (44, 1, .iload_n 2, 0, 0, 0, []),
   (45, 3, .invokevirtual 139, 149, 801, 0, [])],
  [(48, 1, .iconst 2, 0, 0, 2, []),
   (49, 1, .idiv, 0, 0, 0, []),
   (50, 1, .iadd, 0, 0, 0, []),
   (51, 1, .ireturn, 0, 0, 0, [])]]
def cd_154 : aCd := [
  [(0, 1, .aload_n 0, 0, 0, 0, []),
   (1, 1, .iload_n 2, 0, 0, 0, []),
   (2, 1, .iconst 0, 0, 0, 0, []),
   (3, 3, .invokevirtual 57, 126, 802, 0, []),
   (6, 1, .iload_n 1, 0, 0, 0, []),
   (7, 3, .if_icmp .ne 7, 14, 0, 0, []),
   (10, 1, .iconst 1, 0, 0, 1, []),
   (11, 3, .goto 4, 15, 0, 0, []),
   (14, 1, .iconst 0, 0, 0, 0, []),
   (15, 1, .istore_n 3, 0, 0, 0, [])],
  [(16, 1, .aload_n 0, 0, 0, 0, []),
   (17, 1, .iload_n 1, 0, 0, 0, []),
   (18, 1, .iconst 0, 0, 0, 0, []),
   (19, 3, .invokevirtual 136, 124, 802, 0, []),
   (22, 38, .tableswitch 128 1 6 #[38, 46, 54, 60, 75, 106], 150, 0, 0, [(1, 60), (2, 68), (3, 76), (4, 82), (5, 97), (6, 128)])],
  [],
  [(60, 1, .aload_n 0, 0, 0, 0, []),
   (61, 1, .iload_n 1, 0, 0, 0, []),
   (62, 1, .iload_n 2, 0, 0, 0, []),
   (63, 1, .iload_n 3, 0, 0, 0, [])],
  [(64, 3, .invokevirtual 146, 152, 803, 0, []),
   (67, 1, .ireturn, 0, 0, 0, []),
   (68, 1, .aload_n 0, 0, 0, 0, []),
   (69, 1, .iload_n 1, 0, 0, 0, []),
   (70, 1, .iload_n 2, 0, 0, 0, []),
   (71, 1, .iload_n 3, 0, 0, 0, []),
   (72, 3, .invokevirtual 150, 153, 803, 0, []),
   (75, 1, .ireturn, 0, 0, 0, []),
   (76, 1, .aload_n 0, 0, 0, 0, []),
   (77, 1, .iload_n 2, 0, 0, 0, []),
   (78, 3, .invokevirtual 139, 149, 801, 0, [])],
  [(81, 1, .ireturn, 0, 0, 0, []),
   (82, 1, .aload_n 0, 0, 0, 0, []),
   (83, 1, .iload_n 1, 0, 0, 0, []),
   (84, 1, .iload_n 2, 0, 0, 0, []),
   (85, 1, .iload_n 3, 0, 0, 0, []),
   (86, 3, .invokevirtual 146, 152, 803, 0, []),
   (89, 1, .aload_n 0, 0, 0, 0, []),
   (90, 1, .iload_n 1, 0, 0, 0, []),
   (91, 1, .iconst 1, 0, 0, 1, []),
   (92, 3, .invokevirtual 136, 124, 802, 0, []),
   (95, 1, .iadd, 0, 0, 0, [])],
  [(96, 1, .ireturn, 0, 0, 0, []),
   (97, 1, .iload_n 3, 0, 0, 0, []),
   (98, 3, .ifCond .ne 18, 116, 0, 0, []),
   (101, 1, .aload_n 0, 0, 0, 0, []),
   (102, 1, .iload_n 2, 0, 0, 0, []),
   (103, 1, .iconst 0, 0, 0, 0, []),
   (104, 3, .invokevirtual 57, 126, 802, 0, []),
   (107, 1, .aload_n 0, 0, 0, 0, []),
   (108, 1, .iload_n 1, 0, 0, 0, []),
   (109, 1, .iconst 4, 0, 0, 4, []),
   (110, 3, .invokevirtual 136, 124, 802, 0, [])],
  [(113, 3, .if_icmp .ne 13, 126, 0, 0, []),
   (116, 1, .aload_n 0, 0, 0, 0, []),
   (117, 1, .iload_n 1, 0, 0, 0, []),
   (118, 1, .iload_n 2, 0, 0, 0, []),
   (119, 1, .iload_n 3, 0, 0, 0, []),
   (120, 3, .invokevirtual 150, 153, 803, 0, []),
   (123, 3, .goto 4, 127, 0, 0, []),
   (126, 1, .iconst 0, 0, 0, 0, []),
   (127, 1, .ireturn, 0, 0, 0, [])],
  [(128, 1, .aload_n 0, 0, 0, 0, []),
   (129, 1, .iload_n 2, 0, 0, 0, []),
   (130, 1, .iconst 3, 0, 0, 3, []),
   (131, 3, .invokevirtual 57, 126, 802, 0, []),
   (134, 1, .aload_n 0, 0, 0, 0, []),
   (135, 1, .iload_n 1, 0, 0, 0, []),
   (136, 1, .iconst 1, 0, 0, 1, []),
   (137, 3, .invokevirtual 136, 124, 802, 0, []),
   (140, 3, .if_icmp .lt 8, 148, 0, 0, []),
   (143, 2, .bipush 30, 0, 0, 30, [])],
  [(145, 3, .goto 4, 149, 0, 0, []),
   (148, 1, .iconst 0, 0, 0, 0, []),
   (149, 1, .ireturn, 0, 0, 0, []),
   (150, 1, .aload_n 0, 0, 0, 0, []),
   (151, 1, .iload_n 1, 0, 0, 0, []),
   (152, 1, .iload_n 3, 0, 0, 0, []),
   (153, 3, .invokevirtual 142, 151, 802, 0, []),
   (156, 1, .ireturn, 0, 0, 0, [])]]
def cd_155 : aCd := [
  [(0, 1, .aload_n 0, 0, 0, 0, []),
   (1, 1, .iload_n 1, 0, 0, 0, []),
   (2, 1, .iload_n 2, 0, 0, 0, []),
   (3, 3, .invokevirtual 153, 154, 802, 0, []),
   (6, 1, .aload_n 0, 0, 0, 0, []),
   (7, 1, .iload_n 2, 0, 0, 0, []),
   (8, 1, .iconst 0, 0, 0, 0, []),
   (9, 3, .invokevirtual 57, 126, 802, 0, []),
   (12, 1, .iload_n 1, 0, 0, 0, []),
   (13, 3, .if_icmp .ne 7, 20, 0, 0, [])],
  [(16, 1, .iconst 0, 0, 0, 0, []),
   (17, 3, .goto 9, 26, 0, 0, []),
   (20, 1, .aload_n 0, 0, 0, 0, []),
   (21, 1, .iload_n 2, 0, 0, 0, []),
   (22, 1, .iload_n 3, 0, 0, 0, []),
   (23, 3, .invokevirtual 156, 150, 802, 0, []),
   (26, 1, .isub, 0, 0, 0, []),
   (27, 1, .ireturn, 0, 0, 0, [])]]
def cd_156 : aCd := [
  [(0, 1, .aload_n 0, 0, 0, 0, []),
   (1, 1, .iload_n 1, 0, 0, 0, []),
   (2, 3, .invokevirtual 61, 129, 801, 0, []),
   (5, 3, .ifCond .eq 16, 21, 0, 0, []),
   (8, 1, .aload_n 0, 0, 0, 0, []),
   (9, 1, .iload_n 1, 0, 0, 0, []),
   (10, 1, .iconst 4, 0, 0, 4, []),
   (11, 3, .invokevirtual 57, 126, 802, 0, []),
   (14, 3, .ifCond .ne 7, 21, 0, 0, [])],
  [(17, 1, .iconst 1, 0, 0, 1, []),
   (18, 3, .goto 4, 22, 0, 0, []),
   (21, 1, .iconst 0, 0, 0, 0, []),
   (22, 1, .ireturn, 0, 0, 0, [])]]
def cd_157 : aCd := [
  [(0, 1, .iconst (-1), 0, 0, -1, []),
   (1, 1, .istore_n 3, 0, 0, 0, []),
   (2, 1, .iconst 0, 0, 0, 0, []),
   (3, 2, .istore 4, 0, 0, 0, []),
   (5, 1, .iconst 0, 0, 0, 0, []),
   (6, 2, .istore 5, 0, 0, 0, []),
   (8, 2, .iload 5, 0, 0, 0, []),
   (10, 1, .aload_n 0, 0, 0, 0, []),
   (11, 3, .getfield 7, 8, 0, 0, []),
   (14, 2, .bipush 8, 0, 0, 8, [])],
  [(16, 1, .iaload, 0, 0, 0, []),
   (17, 3, .if_icmp .ge 62, 79, 0, 0, []),
   (20, 1, .aload_n 0, 0, 0, 0, []),
   (21, 2, .iload 5, 0, 0, 0, []),
   (23, 3, .invokevirtual 159, 156, 801, 0, []),
   (26, 3, .ifCond .eq 14, 40, 0, 0, []),
   (29, 1, .aload_n 0, 0, 0, 0, []),
   (30, 1, .iload_n 1, 0, 0, 0, []),
   (31, 2, .iload 5, 0, 0, 0, [])],
  [(33, 1, .iload_n 2, 0, 0, 0, []),
   (34, 3, .invokevirtual 162, 155, 803, 0, []),
   (37, 3, .goto 4, 41, 0, 0, []),
   (40, 1, .iconst 0, 0, 0, 0, []),
   (41, 2, .istore 6, 0, 0, 0, []),
   (43, 2, .iload 6, 0, 0, 0, []),
   (45, 2, .iload 4, 0, 0, 0, []),
   (47, 3, .if_icmp .le 8, 55, 0, 0, [])],
  [(50, 2, .iload 5, 0, 0, 0, []),
   (52, 3, .goto 4, 56, 0, 0, []),
   (55, 1, .iload_n 3, 0, 0, 0, []),
   (56, 1, .istore_n 3, 0, 0, 0, []),
   (57, 2, .iload 6, 0, 0, 0, []),
   (59, 2, .iload 4, 0, 0, 0, []),
   (61, 3, .if_icmp .le 8, 69, 0, 0, [])],
  [(64, 2, .iload 6, 0, 0, 0, []),
   (66, 3, .goto 5, 71, 0, 0, []),
   (69, 2, .iload 4, 0, 0, 0, []),
   (71, 2, .istore 4, 0, 0, 0, []),
   (73, 3, .iinc 5 1, 0, 0, 1, []),
   (76, 3, .goto (-68), 8, 0, 0, []),
   (79, 1, .iload_n 3, 0, 0, 0, [])],
  [(80, 1, .ireturn, 0, 0, 0, [])]]
def cd_158 : aCd := [
  [(0, 1, .aload_n 0, 0, 0, 0, []),
   (1, 3, .getfield 7, 8, 0, 0, []),
   (4, 1, .iload_n 1, 0, 0, 0, []),
   (5, 1, .aload_n 0, 0, 0, 0, []),
   (6, 3, .getfield 7, 8, 0, 0, []),
   (9, 1, .iload_n 1, 0, 0, 0, []),
   (10, 1, .iaload, 0, 0, 0, []),
   (11, 1, .iload_n 2, 0, 0, 0, []),
   (12, 1, .iadd, 0, 0, 0, []),
   (13, 1, .iconst 0, 0, 0, 0, []),
   (14, 3, .sipush 9999, 0, 0, 9999, [])],
  [(17, 3, .invokestatic 127, 118, 3, 0, []),
   (20, 1, .iastore, 0, 0, 0, []),
   (21, 1, .return_, 0, 0, 0, [])]]
def cd_159 : aCd := [
  [(0, 1, .aload_n 0, 0, 0, 0, []),
   (1, 1, .iload_n 1, 0, 0, 0, []),
   (2, 1, .iload_n 2, 0, 0, 0, []),
   (3, 3, .invokevirtual 165, 157, 802, 0, []),
   (6, 1, .istore_n 3, 0, 0, 0, []),
   (7, 1, .iload_n 3, 0, 0, 0, []),
   (8, 1, .iconst (-1), 0, 0, -1, []),
   (9, 3, .if_icmp .ne 5, 14, 0, 0, []),
   (12, 1, .iconst (-1), 0, 0, -1, []),
   (13, 1, .ireturn, 0, 0, 0, []),
   (14, 1, .aload_n 0, 0, 0, 0, []),
   (15, 1, .iload_n 3, 0, 0, 0, [])],
  [(16, 1, .iconst 0, 0, 0, 0, []),
   (17, 3, .invokevirtual 57, 126, 802, 0, []),
   (20, 2, .istore 4, 0, 0, 0, []),
   (22, 1, .aload_n 0, 0, 0, 0, []),
   (23, 1, .iload_n 3, 0, 0, 0, []),
   (24, 1, .iconst 5, 0, 0, 5, []),
   (25, 1, .iconst 0, 0, 0, 0, []),
   (26, 3, .invokevirtual 168, 127, 803, 0, []),
   (29, 1, .aload_n 0, 0, 0, 0, []),
   (30, 1, .iload_n 3, 0, 0, 0, []),
   (31, 2, .bipush 6, 0, 0, 6, [])],
  [(33, 1, .iload_n 1, 0, 0, 0, []),
   (34, 3, .invokevirtual 168, 127, 803, 0, []),
   (37, 1, .aload_n 0, 0, 0, 0, []),
   (38, 1, .iload_n 1, 0, 0, 0, []),
   (39, 1, .iconst 0, 0, 0, 0, []),
   (40, 3, .invokevirtual 136, 124, 802, 0, []),
   (43, 2, .bipush 6, 0, 0, 6, []),
   (45, 3, .if_icmp .ne 11, 56, 0, 0, [])],
  [(48, 1, .aload_n 0, 0, 0, 0, []),
   (49, 1, .iconst 3, 0, 0, 3, []),
   (50, 1, .iconst 1, 0, 0, 1, []),
   (51, 3, .invokevirtual 172, 158, 802, 0, []),
   (54, 1, .iload_n 3, 0, 0, 0, []),
   (55, 1, .ireturn, 0, 0, 0, []),
   (56, 1, .aload_n 0, 0, 0, 0, []),
   (57, 1, .iload_n 1, 0, 0, 0, []),
   (58, 1, .iconst 2, 0, 0, 2, []),
   (59, 1, .iconst 0, 0, 0, 0, []),
   (60, 3, .invokevirtual 175, 125, 803, 0, []),
   (63, 1, .aload_n 0, 0, 0, 0, [])],
  [(64, 2, .iload 4, 0, 0, 0, []),
   (66, 1, .iload_n 1, 0, 0, 0, []),
   (67, 3, .if_icmp .ne 7, 74, 0, 0, []),
   (70, 1, .iconst 2, 0, 0, 2, []),
   (71, 3, .goto 4, 75, 0, 0, []),
   (74, 1, .iconst 1, 0, 0, 1, []),
   (75, 1, .iconst 1, 0, 0, 1, []),
   (76, 3, .invokevirtual 172, 158, 802, 0, []),
   (79, 2, .iload 4, 0, 0, 0, [])],
  [(81, 1, .iload_n 1, 0, 0, 0, []),
   (82, 3, .if_icmp .eq 25, 107, 0, 0, []),
   (85, 1, .aload_n 0, 0, 0, 0, []),
   (86, 2, .iload 4, 0, 0, 0, []),
   (88, 1, .iconst 3, 0, 0, 3, []),
   (89, 1, .aload_n 0, 0, 0, 0, []),
   (90, 2, .iload 4, 0, 0, 0, []),
   (92, 1, .iconst 3, 0, 0, 3, []),
   (93, 3, .invokevirtual 136, 124, 802, 0, [])],
  [(96, 1, .iconst 1, 0, 0, 1, []),
   (97, 1, .iadd, 0, 0, 0, []),
   (98, 1, .iconst 0, 0, 0, 0, []),
   (99, 2, .bipush 9, 0, 0, 9, []),
   (101, 3, .invokestatic 127, 118, 3, 0, []),
   (104, 3, .invokevirtual 175, 125, 803, 0, []),
   (107, 1, .iload_n 3, 0, 0, 0, []),
   (108, 1, .ireturn, 0, 0, 0, [])]]
def cd_160 : aCd := [
  [(0, 1, .aload_n 0, 0, 0, 0, []),
   (1, 3, .getfield 7, 8, 0, 0, []),
   (4, 1, .iconst 0, 0, 0, 0, []),
   (5, 1, .dup2, 0, 0, 0, []),
   (6, 1, .iaload, 0, 0, 0, []),
   (7, 1, .iconst 1, 0, 0, 1, []),
   (8, 1, .iadd, 0, 0, 0, []),
   (9, 1, .iastore, 0, 0, 0, []),
   (10, 1, .iconst 0, 0, 0, 0, []),
   (11, 1, .istore_n 1, 0, 0, 0, []),
   (12, 1, .iload_n 1, 0, 0, 0, []),
   (13, 1, .aload_n 0, 0, 0, 0, []),
   (14, 3, .getfield 7, 8, 0, 0, [])],
  [(17, 2, .bipush 7, 0, 0, 7, []),
   (19, 1, .iaload, 0, 0, 0, []),
   (20, 3, .if_icmp .ge 29, 49, 0, 0, []),
   (23, 1, .aload_n 0, 0, 0, 0, []),
   (24, 1, .iload_n 1, 0, 0, 0, []),
   (25, 1, .iconst 2, 0, 0, 2, []),
   (26, 1, .aload_n 0, 0, 0, 0, []),
   (27, 1, .iload_n 1, 0, 0, 0, []),
   (28, 1, .iconst 2, 0, 0, 2, []),
   (29, 3, .invokevirtual 136, 124, 802, 0, [])],
  [(32, 1, .iconst 4, 0, 0, 4, []),
   (33, 1, .iadd, 0, 0, 0, []),
   (34, 1, .iconst 0, 0, 0, 0, []),
   (35, 2, .bipush 99, 0, 0, 99, []),
   (37, 3, .invokestatic 127, 118, 3, 0, []),
   (40, 3, .invokevirtual 175, 125, 803, 0, []),
   (43, 3, .iinc 1 1, 0, 0, 1, []),
   (46, 3, .goto (-34), 12, 0, 0, [])],
  [(49, 1, .iconst 0, 0, 0, 0, []),
   (50, 1, .istore_n 1, 0, 0, 0, []),
   (51, 1, .iload_n 1, 0, 0, 0, []),
   (52, 1, .aload_n 0, 0, 0, 0, []),
   (53, 3, .getfield 7, 8, 0, 0, []),
   (56, 2, .bipush 8, 0, 0, 8, []),
   (58, 1, .iaload, 0, 0, 0, []),
   (59, 3, .if_icmp .ge 58, 117, 0, 0, []),
   (62, 1, .aload_n 0, 0, 0, 0, []),
   (63, 3, .getfield 7, 8, 0, 0, [])],
  [(66, 1, .iconst 0, 0, 0, 0, []),
   (67, 1, .iaload, 0, 0, 0, []),
   (68, 2, .bipush 8, 0, 0, 8, []),
   (70, 1, .irem, 0, 0, 0, []),
   (71, 3, .ifCond .ne 46, 117, 0, 0, []),
   (74, 1, .aload_n 0, 0, 0, 0, []),
   (75, 1, .iload_n 1, 0, 0, 0, []),
   (76, 1, .iconst 3, 0, 0, 3, []),
   (77, 1, .aload_n 0, 0, 0, 0, []),
   (78, 1, .iload_n 1, 0, 0, 0, []),
   (79, 3, .invokevirtual 61, 129, 801, 0, [])],
  [(82, 3, .ifCond .eq 20, 102, 0, 0, []),
   (85, 1, .aload_n 0, 0, 0, 0, []),
   (86, 1, .iload_n 1, 0, 0, 0, []),
   (87, 1, .iconst 3, 0, 0, 3, []),
   (88, 3, .invokevirtual 57, 126, 802, 0, []),
   (91, 1, .iconst 1, 0, 0, 1, []),
   (92, 1, .iadd, 0, 0, 0, []),
   (93, 1, .iconst 0, 0, 0, 0, []),
   (94, 2, .bipush 9, 0, 0, 9, [])],
  [(96, 3, .invokestatic 127, 118, 3, 0, []),
   (99, 3, .goto 9, 108, 0, 0, []),
   (102, 1, .aload_n 0, 0, 0, 0, []),
   (103, 1, .iload_n 1, 0, 0, 0, []),
   (104, 1, .iconst 3, 0, 0, 3, []),
   (105, 3, .invokevirtual 57, 126, 802, 0, []),
   (108, 3, .invokevirtual 168, 127, 803, 0, []),
   (111, 3, .iinc 1 1, 0, 0, 1, [])],
  [(114, 3, .goto (-63), 51, 0, 0, []),
   (117, 1, .return_, 0, 0, 0, [])]]
def cd_161 : aCd := [
  [(0, 1, .aload_n 0, 0, 0, 0, []),
   (1, 3, .getfield 7, 8, 0, 0, []),
   (4, 1, .iconst 4, 0, 0, 4, []),
   (5, 1, .aload_n 0, 0, 0, 0, []),
   (6, 3, .getfield 7, 8, 0, 0, []),
   (9, 1, .iconst 4, 0, 0, 4, []),
   (10, 1, .iaload, 0, 0, 0, []),
   (11, 2, .ldc 178, 0, 0, 1103515245, []),
   (13, 1, .imul, 0, 0, 0, []),
   (14, 3, .sipush 12345, 0, 0, 12345, [])],
  [(17, 1, .iadd, 0, 0, 0, []),
   (18, 1, .iastore, 0, 0, 0, []),
   (19, 1, .aload_n 0, 0, 0, 0, []),
   (20, 3, .getfield 7, 8, 0, 0, []),
   (23, 1, .iconst 4, 0, 0, 4, []),
   (24, 1, .iaload, 0, 0, 0, []),
   (25, 2, .bipush 8, 0, 0, 8, []),
   (27, 1, .iushr, 0, 0, 0, []),
   (28, 1, .ireturn, 0, 0, 0, [])]]
def cd_162 : aCd := [
  [(0, 1, .iconst (-1), 0, 0, -1, []),
   (1, 1, .istore_n 1, 0, 0, 0, []),
   (2, 1, .aload_n 0, 0, 0, 0, []),
   (3, 3, .getfield 7, 8, 0, 0, []),
   (6, 2, .bipush 7, 0, 0, 7, []),
   (8, 1, .iaload, 0, 0, 0, []),
   (9, 3, .ifCond .le 28, 37, 0, 0, []),
   (12, 1, .aload_n 0, 0, 0, 0, []),
   (13, 3, .invokevirtual 179, 161, 800, 0, [])],
  [(16, 1, .aload_n 0, 0, 0, 0, []),
   (17, 3, .getfield 7, 8, 0, 0, []),
   (20, 2, .bipush 7, 0, 0, 7, []),
   (22, 1, .iaload, 0, 0, 0, []),
   (23, 1, .irem, 0, 0, 0, []),
   (24, 1, .istore_n 2, 0, 0, 0, []),
   (25, 1, .aload_n 0, 0, 0, 0, []),
   (26, 1, .iload_n 2, 0, 0, 0, []),
   (27, 1, .aload_n 0, 0, 0, 0, []),
   (28, 3, .invokevirtual 179, 161, 800, 0, []),
   (31, 1, .iconst 2, 0, 0, 2, [])],
  [(32, 1, .irem, 0, 0, 0, []),
   (33, 3, .invokevirtual 182, 159, 802, 0, []),
   (36, 1, .istore_n 1, 0, 0, 0, []),
   (37, 1, .aload_n 0, 0, 0, 0, []),
   (38, 3, .invokevirtual 185, 160, 800, 0, []),
   (41, 1, .iload_n 1, 0, 0, 0, []),
   (42, 1, .ireturn, 0, 0, 0, [])]]
def cd_163 : aCd := [
  [(0, 1, .iload_n 0, 0, 0, 0, []),
   (1, 1, .iconst 0, 0, 0, 0, []),
   (2, 2, .bipush 69, 0, 0, 69, []),
   (4, 3, .invokestatic 53, 117, 3, 0, []),
   (7, 1, .ireturn, 0, 0, 0, [])]]
def cd_164 : aCd := [
  [(0, 1, .iload_n 1, 0, 0, 0, []),
   (1, 3, .invokestatic 188, 163, 1, 0, []),
   (4, 3, .ifCond .ne 9, 13, 0, 0, []),
   (7, 1, .aload_n 0, 0, 0, 0, []),
   (8, 1, .iconst 1, 0, 0, 1, []),
   (9, 3, .invokevirtual 65, 116, 801, 0, []),
   (12, 1, .ireturn, 0, 0, 0, []),
   (13, 1, .aload_n 0, 0, 0, 0, []),
   (14, 3, .getfield 7, 8, 0, 0, [])],
  [(17, 2, .bipush 7, 0, 0, 7, []),
   (19, 1, .iaload, 0, 0, 0, []),
   (20, 2, .bipush 8, 0, 0, 8, []),
   (22, 3, .if_icmp .ne 9, 31, 0, 0, []),
   (25, 1, .aload_n 0, 0, 0, 0, []),
   (26, 1, .iconst 4, 0, 0, 4, []),
   (27, 3, .invokevirtual 65, 116, 801, 0, []),
   (30, 1, .ireturn, 0, 0, 0, []),
   (31, 1, .aload_n 0, 0, 0, 0, [])],
  [(32, 3, .getfield 7, 8, 0, 0, []),
   (35, 2, .bipush 7, 0, 0, 7, []),
   (37, 1, .iaload, 0, 0, 0, []),
   (38, 1, .istore_n 2, 0, 0, 0, []),
   (39, 1, .aload_n 0, 0, 0, 0, []),
   (40, 1, .iload_n 2, 0, 0, 0, []),
   (41, 1, .iconst 0, 0, 0, 0, []),
   (42, 1, .iload_n 1, 0, 0, 0, []),
   (43, 2, .bipush 10, 0, 0, 10, []),
   (45, 1, .idiv, 0, 0, 0, []),
   (46, 3, .invokevirtual 175, 125, 803, 0, [])],
  [(49, 1, .aload_n 0, 0, 0, 0, []),
   (50, 1, .iload_n 2, 0, 0, 0, []),
   (51, 1, .iconst 1, 0, 0, 1, []),
   (52, 1, .iload_n 1, 0, 0, 0, []),
   (53, 2, .bipush 10, 0, 0, 10, []),
   (55, 1, .irem, 0, 0, 0, []),
   (56, 3, .invokevirtual 175, 125, 803, 0, []),
   (59, 1, .aload_n 0, 0, 0, 0, []),
   (60, 1, .iload_n 2, 0, 0, 0, []),
   (61, 1, .iconst 2, 0, 0, 2, []),
   (62, 2, .bipush 10, 0, 0, 10, [])],
  [(64, 3, .invokevirtual 175, 125, 803, 0, []),
   (67, 1, .aload_n 0, 0, 0, 0, []),
   (68, 1, .iload_n 2, 0, 0, 0, []),
   (69, 1, .iconst 3, 0, 0, 3, []),
   (70, 1, .iconst 0, 0, 0, 0, []),
   (71, 3, .invokevirtual 175, 125, 803, 0, []),
   (74, 1, .aload_n 0, 0, 0, 0, []),
   (75, 1, .iload_n 2, 0, 0, 0, []),
   (76, 1, .iconst 4, 0, 0, 4, []),
   (77, 1, .iconst (-1), 0, 0, -1, []),
   (78, 3, .invokevirtual 175, 125, 803, 0, [])],
  [(81, 1, .aload_n 0, 0, 0, 0, []),
   (82, 3, .getfield 7, 8, 0, 0, []),
   (85, 2, .bipush 7, 0, 0, 7, []),
   (87, 1, .dup2, 0, 0, 0, []),
   (88, 1, .iaload, 0, 0, 0, []),
   (89, 1, .iconst 1, 0, 0, 1, []),
   (90, 1, .iadd, 0, 0, 0, []),
   (91, 1, .iastore, 0, 0, 0, []),
   (92, 1, .iload_n 2, 0, 0, 0, []),
   (93, 1, .ireturn, 0, 0, 0, [])]]
def cd_165 : aCd := [
  [(0, 1, .iconst 0, 0, 0, 0, []),
   (1, 1, .istore_n 2, 0, 0, 0, []),
   (2, 1, .iconst 0, 0, 0, 0, []),
   (3, 1, .istore_n 3, 0, 0, 0, []),
   (4, 1, .iload_n 3, 0, 0, 0, []),
   (5, 1, .aload_n 0, 0, 0, 0, []),
   (6, 3, .getfield 7, 8, 0, 0, []),
   (9, 2, .bipush 8, 0, 0, 8, []),
   (11, 1, .iaload, 0, 0, 0, []),
   (12, 3, .if_icmp .ge 35, 47, 0, 0, []),
   (15, 1, .iload_n 2, 0, 0, 0, [])],
  [(16, 1, .aload_n 0, 0, 0, 0, []),
   (17, 1, .iload_n 3, 0, 0, 0, []),
   (18, 3, .invokevirtual 61, 129, 801, 0, []),
   (21, 3, .ifCond .eq 17, 38, 0, 0, []),
   (24, 1, .aload_n 0, 0, 0, 0, []),
   (25, 1, .iload_n 3, 0, 0, 0, []),
   (26, 1, .iconst 0, 0, 0, 0, []),
   (27, 3, .invokevirtual 57, 126, 802, 0, []),
   (30, 1, .iload_n 1, 0, 0, 0, []),
   (31, 3, .if_icmp .ne 7, 38, 0, 0, [])],
  [(34, 1, .iconst 1, 0, 0, 1, []),
   (35, 3, .goto 4, 39, 0, 0, []),
   (38, 1, .iconst 0, 0, 0, 0, []),
   (39, 1, .iadd, 0, 0, 0, []),
   (40, 1, .istore_n 2, 0, 0, 0, []),
   (41, 3, .iinc 3 1, 0, 0, 1, []),
   (44, 3, .goto (-40), 4, 0, 0, []),
   (47, 1, .iload_n 2, 0, 0, 0, [])],
  [(48, 1, .ireturn, 0, 0, 0, [])]]
def cd_166 : aCd := [
  [(0, 1, .aload_n 0, 0, 0, 0, []),
   (1, 1, .iload_n 1, 0, 0, 0, []),
   (2, 3, .invokevirtual 191, 122, 801, 0, []),
   (5, 3, .ifCond .eq 12, 17, 0, 0, []),
   (8, 1, .iload_n 2, 0, 0, 0, []),
   (9, 1, .iconst 0, 0, 0, 0, []),
   (10, 1, .iconst 5, 0, 0, 5, []),
   (11, 3, .invokestatic 53, 117, 3, 0, []),
   (14, 3, .ifCond .ne 9, 23, 0, 0, [])],
  [(17, 1, .aload_n 0, 0, 0, 0, []),
   (18, 1, .iconst 1, 0, 0, 1, []),
   (19, 3, .invokevirtual 65, 116, 801, 0, []),
   (22, 1, .ireturn, 0, 0, 0, []),
   (23, 1, .iload_n 2, 0, 0, 0, []),
   (24, 1, .iconst 5, 0, 0, 5, []),
   (25, 3, .if_icmp .ge 12, 37, 0, 0, []),
   (28, 1, .aload_n 0, 0, 0, 0, []),
   (29, 1, .iload_n 1, 0, 0, 0, []),
   (30, 1, .iload_n 2, 0, 0, 0, []),
   (31, 3, .invokevirtual 136, 124, 802, 0, [])],
  [(34, 3, .goto 8, 42, 0, 0, []),
   (37, 1, .aload_n 0, 0, 0, 0, []),
   (38, 1, .iload_n 1, 0, 0, 0, []),
   (39, 3, .invokevirtual 194, 165, 801, 0, []),
   (42, 1, .ireturn, 0, 0, 0, [])]]
def cd_167 : aCd := [
  [(0, 1, .aload_n 0, 0, 0, 0, []),
   (1, 1, .iload_n 1, 0, 0, 0, []),
   (2, 3, .invokevirtual 191, 122, 801, 0, []),
   (5, 3, .ifCond .eq 10, 15, 0, 0, []),
   (8, 1, .iload_n 2, 0, 0, 0, []),
   (9, 3, .invokestatic 188, 163, 1, 0, []),
   (12, 3, .ifCond .ne 9, 21, 0, 0, []),
   (15, 1, .aload_n 0, 0, 0, 0, [])],
  [(16, 1, .iconst 1, 0, 0, 1, []),
   (17, 3, .invokevirtual 65, 116, 801, 0, []),
   (20, 1, .ireturn, 0, 0, 0, []),
   (21, 1, .aload_n 0, 0, 0, 0, []),
   (22, 1, .iload_n 1, 0, 0, 0, []),
   (23, 1, .iconst 1, 0, 0, 1, []),
   (24, 1, .iload_n 2, 0, 0, 0, []),
   (25, 2, .bipush 10, 0, 0, 10, []),
   (27, 1, .irem, 0, 0, 0, []),
   (28, 3, .invokevirtual 175, 125, 803, 0, []),
   (31, 1, .aload_n 0, 0, 0, 0, [])],
  [(32, 2, .bipush 10, 0, 0, 10, []),
   (34, 1, .iconst 5, 0, 0, 5, []),
   (35, 1, .iload_n 1, 0, 0, 0, []),
   (36, 1, .imul, 0, 0, 0, []),
   (37, 1, .iadd, 0, 0, 0, []),
   (38, 1, .iconst 0, 0, 0, 0, []),
   (39, 1, .iadd, 0, 0, 0, []),
   (40, 1, .iload_n 2, 0, 0, 0, []),
   (41, 2, .bipush 10, 0, 0, 10, []),
   (43, 1, .idiv, 0, 0, 0, []),
   (44, 3, .invokevirtual 197, 128, 802, 0, []),
   (47, 1, .ireturn, 0, 0, 0, [])]]
def cd_168 : aCd := [
  [(0, 1, .aload_n 0, 0, 0, 0, []),
   (1, 1, .iload_n 1, 0, 0, 0, []),
   (2, 3, .invokevirtual 191, 122, 801, 0, []),
   (5, 3, .ifCond .eq 13, 18, 0, 0, []),
   (8, 1, .iload_n 2, 0, 0, 0, []),
   (9, 1, .iconst 0, 0, 0, 0, []),
   (10, 2, .bipush 6, 0, 0, 6, []),
   (12, 3, .invokestatic 53, 117, 3, 0, []),
   (15, 3, .ifCond .ne 9, 24, 0, 0, [])],
  [(18, 1, .aload_n 0, 0, 0, 0, []),
   (19, 1, .iconst 1, 0, 0, 1, []),
   (20, 3, .invokevirtual 65, 116, 801, 0, []),
   (23, 1, .ireturn, 0, 0, 0, []),
   (24, 1, .aload_n 0, 0, 0, 0, []),
   (25, 1, .iload_n 1, 0, 0, 0, []),
   (26, 1, .iconst 0, 0, 0, 0, []),
   (27, 3, .invokevirtual 136, 124, 802, 0, []),
   (30, 1, .istore_n 3, 0, 0, 0, []),
   (31, 1, .iload_n 3, 0, 0, 0, [])],
  [(32, 1, .iload_n 2, 0, 0, 0, []),
   (33, 3, .if_icmp .eq 15, 48, 0, 0, []),
   (36, 1, .iload_n 3, 0, 0, 0, []),
   (37, 3, .ifCond .eq 11, 48, 0, 0, []),
   (40, 1, .iload_n 3, 0, 0, 0, []),
   (41, 3, .invokestatic 200, 197, 1, 0, []),
   (44, 1, .istore_n 3, 0, 0, 0, []),
   (45, 3, .goto (-14), 31, 0, 0, [])],
  [(48, 1, .iload_n 3, 0, 0, 0, []),
   (49, 1, .iload_n 2, 0, 0, 0, []),
   (50, 3, .if_icmp .ne 12, 62, 0, 0, []),
   (53, 1, .aload_n 0, 0, 0, 0, []),
   (54, 1, .iload_n 1, 0, 0, 0, []),
   (55, 1, .iconst 1, 0, 0, 1, []),
   (56, 3, .invokevirtual 136, 124, 802, 0, []),
   (59, 3, .goto 8, 67, 0, 0, []),
   (62, 1, .aload_n 0, 0, 0, 0, []),
   (63, 1, .iconst 5, 0, 0, 5, [])],
  [(64, 3, .invokevirtual 65, 116, 801, 0, []),
   (67, 1, .ireturn, 0, 0, 0, [])]]
def cd_169 : aCd := [
  [(0, 1, .aload_n 0, 0, 0, 0, []),
   (1, 1, .iload_n 1, 0, 0, 0, []),
   (2, 3, .invokevirtual 191, 122, 801, 0, []),
   (5, 3, .ifCond .eq 12, 17, 0, 0, []),
   (8, 1, .iload_n 2, 0, 0, 0, []),
   (9, 1, .iconst 0, 0, 0, 0, []),
   (10, 1, .iconst 2, 0, 0, 2, []),
   (11, 3, .invokestatic 53, 117, 3, 0, []),
   (14, 3, .ifCond .ne 9, 23, 0, 0, [])],
  [(17, 1, .aload_n 0, 0, 0, 0, []),
   (18, 1, .iconst 1, 0, 0, 1, []),
   (19, 3, .invokevirtual 65, 116, 801, 0, []),
   (22, 1, .ireturn, 0, 0, 0, []),
   (23, 1, .iload_n 2, 0, 0, 0, []),
   (24, 3, .ifCond .ne 13, 37, 0, 0, []),
   (27, 1, .iload_n 3, 0, 0, 0, []),
   (28, 1, .iconst 0, 0, 0, 0, []),
   (29, 2, .bipush 99, 0, 0, 99, []),
   (31, 3, .invokestatic 53, 117, 3, 0, [])],
  [(34, 3, .goto 41, 75, 0, 0, []),
   (37, 1, .iload_n 2, 0, 0, 0, []),
   (38, 1, .iconst 1, 0, 0, 1, []),
   (39, 3, .if_icmp .ne 13, 52, 0, 0, []),
   (42, 1, .iload_n 3, 0, 0, 0, []),
   (43, 1, .iconst 0, 0, 0, 0, []),
   (44, 2, .bipush 9, 0, 0, 9, []),
   (46, 3, .invokestatic 53, 117, 3, 0, [])],
  [(49, 3, .goto 26, 75, 0, 0, []),
   (52, 1, .iload_n 3, 0, 0, 0, []),
   (53, 1, .iconst (-1), 0, 0, -1, []),
   (54, 3, .if_icmp .eq 16, 70, 0, 0, []),
   (57, 1, .aload_n 0, 0, 0, 0, []),
   (58, 1, .iload_n 3, 0, 0, 0, []),
   (59, 3, .invokevirtual 191, 122, 801, 0, []),
   (62, 3, .ifCond .eq 12, 74, 0, 0, [])],
  [(65, 1, .iload_n 3, 0, 0, 0, []),
   (66, 1, .iload_n 1, 0, 0, 0, []),
   (67, 3, .if_icmp .eq 7, 74, 0, 0, []),
   (70, 1, .iconst 1, 0, 0, 1, []),
   (71, 3, .goto 4, 75, 0, 0, []),
   (74, 1, .iconst 0, 0, 0, 0, []),
   (75, 2, .istore 4, 0, 0, 0, []),
   (77, 2, .iload 4, 0, 0, 0, []),
   (79, 3, .ifCond .eq 21, 100, 0, 0, [])],
  [(82, 1, .aload_n 0, 0, 0, 0, []),
   (83, 2, .bipush 10, 0, 0, 10, []),
   (85, 1, .iconst 5, 0, 0, 5, []),
   (86, 1, .iload_n 1, 0, 0, 0, []),
   (87, 1, .imul, 0, 0, 0, []),
   (88, 1, .iadd, 0, 0, 0, []),
   (89, 1, .iconst 2, 0, 0, 2, []),
   (90, 1, .iadd, 0, 0, 0, []),
   (91, 1, .iload_n 2, 0, 0, 0, []),
   (92, 1, .iadd, 0, 0, 0, []),
   (93, 1, .iload_n 3, 0, 0, 0, []),
   (94, 3, .invokevirtual 197, 128, 802, 0, [])],
  [(97, 3, .goto 8, 105, 0, 0, []),
   (100, 1, .aload_n 0, 0, 0, 0, []),
   (101, 1, .iconst 1, 0, 0, 1, []),
   (102, 3, .invokevirtual 65, 116, 801, 0, []),
   (105, 1, .ireturn, 0, 0, 0, [])]]
def cd_170 : aCd := [
  [(0, 1, .iload_n 0, 0, 0, 0, []),
   (1, 1, .iconst 1, 0, 0, 1, []),
   (2, 3, .if_icmp .ne 7, 9, 0, 0, []),
   (5, 1, .iconst 2, 0, 0, 2, []),
   (6, 3, .goto 23, 29, 0, 0, []),
   (9, 1, .iload_n 0, 0, 0, 0, []),
   (10, 1, .iconst 2, 0, 0, 2, []),
   (11, 3, .if_icmp .ne 7, 18, 0, 0, []),
   (14, 1, .iconst 3, 0, 0, 3, []),
   (15, 3, .goto 14, 29, 0, 0, [])],
  [(18, 1, .iload_n 0, 0, 0, 0, []),
   (19, 1, .iconst 3, 0, 0, 3, []),
   (20, 3, .if_icmp .ne 8, 28, 0, 0, []),
   (23, 2, .bipush 9, 0, 0, 9, []),
   (25, 3, .goto 4, 29, 0, 0, []),
   (28, 1, .iconst 1, 0, 0, 1, []),
   (29, 1, .ireturn, 0, 0, 0, [])]]
def cd_171 : aCd := [
  [(0, 1, .aload_n 0, 0, 0, 0, []),
   (1, 1, .iload_n 1, 0, 0, 0, []),
   (2, 3, .invokevirtual 191, 122, 801, 0, []),
   (5, 3, .ifCond .eq 32, 37, 0, 0, []),
   (8, 1, .iload_n 2, 0, 0, 0, []),
   (9, 1, .iconst 0, 0, 0, 0, []),
   (10, 1, .iconst 2, 0, 0, 2, []),
   (11, 3, .invokestatic 53, 117, 3, 0, []),
   (14, 3, .ifCond .eq 23, 37, 0, 0, [])],
  [(17, 1, .iload_n 3, 0, 0, 0, []),
   (18, 1, .iconst 0, 0, 0, 0, []),
   (19, 1, .iconst 3, 0, 0, 3, []),
   (20, 3, .invokestatic 53, 117, 3, 0, []),
   (23, 3, .ifCond .eq 14, 37, 0, 0, []),
   (26, 2, .iload 4, 0, 0, 0, []),
   (28, 1, .iconst 0, 0, 0, 0, []),
   (29, 2, .bipush 9, 0, 0, 9, []),
   (31, 3, .invokestatic 53, 117, 3, 0, [])],
  [(34, 3, .ifCond .ne 9, 43, 0, 0, []),
   (37, 1, .aload_n 0, 0, 0, 0, []),
   (38, 1, .iconst 1, 0, 0, 1, []),
   (39, 3, .invokevirtual 65, 116, 801, 0, []),
   (42, 1, .ireturn, 0, 0, 0, []),
   (43, 1, .aload_n 0, 0, 0, 0, []),
   (44, 3, .getfield 7, 8, 0, 0, []),
   (47, 2, .bipush 8, 0, 0, 8, [])],
  [(49, 1, .iaload, 0, 0, 0, []),
   (50, 2, .bipush 10, 0, 0, 10, []),
   (52, 3, .if_icmp .ne 9, 61, 0, 0, []),
   (55, 1, .aload_n 0, 0, 0, 0, []),
   (56, 1, .iconst 4, 0, 0, 4, []),
   (57, 3, .invokevirtual 65, 116, 801, 0, []),
   (60, 1, .ireturn, 0, 0, 0, []),
   (61, 1, .aload_n 0, 0, 0, 0, []),
   (62, 3, .getfield 7, 8, 0, 0, [])],
  [(65, 2, .bipush 8, 0, 0, 8, []),
   (67, 1, .iaload, 0, 0, 0, []),
   (68, 2, .istore 5, 0, 0, 0, []),
   (70, 1, .aload_n 0, 0, 0, 0, []),
   (71, 2, .iload 5, 0, 0, 0, []),
   (73, 1, .iconst 0, 0, 0, 0, []),
   (74, 1, .iload_n 1, 0, 0, 0, []),
   (75, 3, .invokevirtual 168, 127, 803, 0, []),
   (78, 1, .aload_n 0, 0, 0, 0, []),
   (79, 2, .iload 5, 0, 0, 0, [])],
  [(81, 1, .iconst 1, 0, 0, 1, []),
   (82, 1, .iload_n 2, 0, 0, 0, []),
   (83, 3, .invokevirtual 168, 127, 803, 0, []),
   (86, 1, .aload_n 0, 0, 0, 0, []),
   (87, 2, .iload 5, 0, 0, 0, []),
   (89, 1, .iconst 2, 0, 0, 2, []),
   (90, 1, .iload_n 3, 0, 0, 0, []),
   (91, 3, .invokevirtual 168, 127, 803, 0, []),
   (94, 1, .aload_n 0, 0, 0, 0, []),
   (95, 2, .iload 5, 0, 0, 0, [])],
  [(97, 1, .iconst 3, 0, 0, 3, []),
   (98, 2, .iload 4, 0, 0, 0, []),
   (100, 3, .invokevirtual 168, 127, 803, 0, []),
   (103, 1, .aload_n 0, 0, 0, 0, []),
   (104, 2, .iload 5, 0, 0, 0, []),
   (106, 1, .iconst 4, 0, 0, 4, []),
   (107, 1, .iconst 0, 0, 0, 0, []),
   (108, 3, .invokevirtual 168, 127, 803, 0, []),
   (111, 1, .aload_n 0, 0, 0, 0, [])],
  [(112, 2, .iload 5, 0, 0, 0, []),
   (114, 1, .iconst 5, 0, 0, 5, []),
   (115, 1, .iconst 1, 0, 0, 1, []),
   (116, 3, .invokevirtual 168, 127, 803, 0, []),
   (119, 1, .aload_n 0, 0, 0, 0, []),
   (120, 2, .iload 5, 0, 0, 0, []),
   (122, 2, .bipush 6, 0, 0, 6, []),
   (124, 1, .iconst (-1), 0, 0, -1, []),
   (125, 3, .invokevirtual 168, 127, 803, 0, [])],
  [(128, 1, .aload_n 0, 0, 0, 0, []),
   (129, 3, .getfield 7, 8, 0, 0, []),
   (132, 2, .bipush 8, 0, 0, 8, []),
   (134, 1, .dup2, 0, 0, 0, []),
   (135, 1, .iaload, 0, 0, 0, []),
   (136, 1, .iconst 1, 0, 0, 1, []),
   (137, 1, .iadd, 0, 0, 0, []),
   (138, 1, .iastore, 0, 0, 0, []),
   (139, 2, .iload 5, 0, 0, 0, []),
   (141, 1, .ireturn, 0, 0, 0, [])]]
def cd_172 : aCd := [
  [(0, 1, .aload_n 0, 0, 0, 0, []),
   (1, 1, .iload_n 1, 0, 0, 0, []),
   (2, 3, .invokevirtual 203, 123, 801, 0, []),
   (5, 3, .ifCond .eq 13, 18, 0, 0, []),
   (8, 1, .iload_n 2, 0, 0, 0, []),
   (9, 1, .iconst 0, 0, 0, 0, []),
   (10, 2, .bipush 7, 0, 0, 7, []),
   (12, 3, .invokestatic 53, 117, 3, 0, []),
   (15, 3, .ifCond .ne 9, 24, 0, 0, [])],
  [(18, 1, .aload_n 0, 0, 0, 0, []),
   (19, 1, .iconst 1, 0, 0, 1, []),
   (20, 3, .invokevirtual 65, 116, 801, 0, []),
   (23, 1, .ireturn, 0, 0, 0, []),
   (24, 1, .iload_n 2, 0, 0, 0, []),
   (25, 31, .tableswitch 59 4 7 #[31, 38, 46, 53], 84, 0, 0, [(4, 56), (5, 63), (6, 71), (7, 78)])],
  [],
  [(56, 1, .aload_n 0, 0, 0, 0, []),
   (57, 1, .iload_n 1, 0, 0, 0, []),
   (58, 1, .iconst 5, 0, 0, 5, []),
   (59, 3, .invokevirtual 57, 126, 802, 0, []),
   (62, 1, .ireturn, 0, 0, 0, []),
   (63, 1, .aload_n 0, 0, 0, 0, [])],
  [(64, 1, .iload_n 1, 0, 0, 0, []),
   (65, 2, .bipush 6, 0, 0, 6, []),
   (67, 3, .invokevirtual 57, 126, 802, 0, []),
   (70, 1, .ireturn, 0, 0, 0, []),
   (71, 1, .aload_n 0, 0, 0, 0, []),
   (72, 1, .iload_n 1, 0, 0, 0, []),
   (73, 1, .iconst 4, 0, 0, 4, []),
   (74, 3, .invokevirtual 57, 126, 802, 0, []),
   (77, 1, .ireturn, 0, 0, 0, []),
   (78, 1, .aload_n 0, 0, 0, 0, []),
   (79, 1, .iload_n 1, 0, 0, 0, [])],
  [(80, 3, .invokevirtual 139, 149, 801, 0, []),
   (83, 1, .ireturn, 0, 0, 0, []),
   (84, 1, .aload_n 0, 0, 0, 0, []),
   (85, 1, .iload_n 1, 0, 0, 0, []),
   (86, 1, .iload_n 2, 0, 0, 0, []),
   (87, 3, .invokevirtual 57, 126, 802, 0, []),
   (90, 1, .ireturn, 0, 0, 0, [])]]
def cd_173 : aCd := [
  [(0, 1, .aload_n 0, 0, 0, 0, []),
   (1, 1, .iload_n 1, 0, 0, 0, []),
   (2, 3, .invokevirtual 203, 123, 801, 0, []),
   (5, 3, .ifCond .eq 26, 31, 0, 0, []),
   (8, 1, .iload_n 2, 0, 0, 0, []),
   (9, 1, .iconst 0, 0, 0, 0, []),
   (10, 1, .iconst 3, 0, 0, 3, []),
   (11, 3, .invokestatic 53, 117, 3, 0, []),
   (14, 3, .ifCond .eq 17, 31, 0, 0, [])],
  [(17, 1, .iload_n 3, 0, 0, 0, []),
   (18, 1, .iconst 0, 0, 0, 0, []),
   (19, 1, .iconst 1, 0, 0, 1, []),
   (20, 1, .iload_n 2, 0, 0, 0, []),
   (21, 1, .iadd, 0, 0, 0, []),
   (22, 3, .invokestatic 206, 170, 1, 0, []),
   (25, 3, .invokestatic 53, 117, 3, 0, []),
   (28, 3, .ifCond .ne 9, 37, 0, 0, []),
   (31, 1, .aload_n 0, 0, 0, 0, [])],
  [(32, 1, .iconst 1, 0, 0, 1, []),
   (33, 3, .invokevirtual 65, 116, 801, 0, []),
   (36, 1, .ireturn, 0, 0, 0, []),
   (37, 1, .aload_n 0, 0, 0, 0, []),
   (38, 1, .iload_n 1, 0, 0, 0, []),
   (39, 3, .invokevirtual 61, 129, 801, 0, []),
   (42, 3, .ifCond .ne 9, 51, 0, 0, []),
   (45, 1, .aload_n 0, 0, 0, 0, []),
   (46, 1, .iconst 3, 0, 0, 3, []),
   (47, 3, .invokevirtual 65, 116, 801, 0, [])],
  [(50, 1, .ireturn, 0, 0, 0, []),
   (51, 1, .aload_n 0, 0, 0, 0, []),
   (52, 2, .bipush 50, 0, 0, 50, []),
   (54, 2, .bipush 7, 0, 0, 7, []),
   (56, 1, .iload_n 1, 0, 0, 0, []),
   (57, 1, .imul, 0, 0, 0, []),
   (58, 1, .iadd, 0, 0, 0, []),
   (59, 1, .iconst 1, 0, 0, 1, []),
   (60, 1, .iadd, 0, 0, 0, []),
   (61, 1, .iload_n 2, 0, 0, 0, []),
   (62, 1, .iadd, 0, 0, 0, []),
   (63, 1, .iload_n 3, 0, 0, 0, [])],
  [(64, 3, .invokevirtual 197, 128, 802, 0, []),
   (67, 1, .ireturn, 0, 0, 0, [])]]
def cd_174 : aCd := [
  [(0, 1, .aload_n 0, 0, 0, 0, []),
   (1, 1, .iload_n 1, 0, 0, 0, []),
   (2, 3, .invokevirtual 203, 123, 801, 0, []),
   (5, 3, .ifCond .ne 9, 14, 0, 0, []),
   (8, 1, .aload_n 0, 0, 0, 0, []),
   (9, 1, .iconst 1, 0, 0, 1, []),
   (10, 3, .invokevirtual 65, 116, 801, 0, []),
   (13, 1, .ireturn, 0, 0, 0, []),
   (14, 1, .aload_n 0, 0, 0, 0, []),
   (15, 1, .iload_n 1, 0, 0, 0, [])],
  [(16, 3, .invokevirtual 61, 129, 801, 0, []),
   (19, 3, .ifCond .eq 9, 28, 0, 0, []),
   (22, 1, .aload_n 0, 0, 0, 0, []),
   (23, 1, .iconst 3, 0, 0, 3, []),
   (24, 3, .invokevirtual 65, 116, 801, 0, []),
   (27, 1, .ireturn, 0, 0, 0, []),
   (28, 1, .aload_n 0, 0, 0, 0, []),
   (29, 1, .iload_n 1, 0, 0, 0, []),
   (30, 1, .iconst 5, 0, 0, 5, []),
   (31, 1, .iconst 1, 0, 0, 1, [])],
  [(32, 3, .invokevirtual 168, 127, 803, 0, []),
   (35, 1, .aload_n 0, 0, 0, 0, []),
   (36, 1, .iload_n 1, 0, 0, 0, []),
   (37, 2, .bipush 6, 0, 0, 6, []),
   (39, 1, .iconst (-1), 0, 0, -1, []),
   (40, 3, .invokevirtual 168, 127, 803, 0, []),
   (43, 1, .aload_n 0, 0, 0, 0, []),
   (44, 1, .iload_n 1, 0, 0, 0, []),
   (45, 1, .iconst 3, 0, 0, 3, []),
   (46, 1, .iconst 0, 0, 0, 0, []),
   (47, 3, .invokevirtual 168, 127, 803, 0, [])],
  [(50, 1, .aload_n 0, 0, 0, 0, []),
   (51, 3, .invokevirtual 209, 130, 800, 0, []),
   (54, 1, .ireturn, 0, 0, 0, [])]]
def cd_175 : aCd := [
  [(0, 1, .iload_n 1, 0, 0, 0, []),
   (1, 1, .iconst 0, 0, 0, 0, []),
   (2, 1, .iconst 1, 0, 0, 1, []),
   (3, 3, .invokestatic 53, 117, 3, 0, []),
   (6, 3, .ifCond .ne 9, 15, 0, 0, []),
   (9, 1, .aload_n 0, 0, 0, 0, []),
   (10, 1, .iconst 1, 0, 0, 1, []),
   (11, 3, .invokevirtual 65, 116, 801, 0, []),
   (14, 1, .ireturn, 0, 0, 0, []),
   (15, 1, .iload_n 1, 0, 0, 0, [])],
  [(16, 3, .ifCond .ne 14, 30, 0, 0, []),
   (19, 1, .aload_n 0, 0, 0, 0, []),
   (20, 1, .iload_n 2, 0, 0, 0, []),
   (21, 1, .iload_n 3, 0, 0, 0, []),
   (22, 2, .iload 4, 0, 0, 0, []),
   (24, 3, .invokevirtual 130, 147, 803, 0, []),
   (27, 3, .goto 11, 38, 0, 0, []),
   (30, 1, .aload_n 0, 0, 0, 0, []),
   (31, 1, .iload_n 2, 0, 0, 0, [])],
  [(32, 1, .iload_n 3, 0, 0, 0, []),
   (33, 2, .iload 4, 0, 0, 0, []),
   (35, 3, .invokevirtual 133, 148, 803, 0, []),
   (38, 1, .ireturn, 0, 0, 0, [])]]
def cd_176 : aCd := [
  [(0, 1, .aload_n 0, 0, 0, 0, []),
   (1, 1, .iload_n 1, 0, 0, 0, []),
   (2, 3, .invokevirtual 191, 122, 801, 0, []),
   (5, 3, .ifCond .eq 20, 25, 0, 0, []),
   (8, 1, .aload_n 0, 0, 0, 0, []),
   (9, 1, .iload_n 2, 0, 0, 0, []),
   (10, 3, .invokevirtual 203, 123, 801, 0, []),
   (13, 3, .ifCond .eq 12, 25, 0, 0, [])],
  [(16, 1, .aload_n 0, 0, 0, 0, []),
   (17, 1, .iload_n 1, 0, 0, 0, []),
   (18, 1, .iload_n 2, 0, 0, 0, []),
   (19, 3, .invokevirtual 153, 154, 802, 0, []),
   (22, 3, .goto 8, 30, 0, 0, []),
   (25, 1, .aload_n 0, 0, 0, 0, []),
   (26, 1, .iconst 1, 0, 0, 1, []),
   (27, 3, .invokevirtual 65, 116, 801, 0, []),
   (30, 1, .ireturn, 0, 0, 0, [])]]
def cd_177 : aCd := [
  [(0, 1, .aload_n 0, 0, 0, 0, []),
   (1, 1, .iload_n 1, 0, 0, 0, []),
   (2, 3, .invokevirtual 203, 123, 801, 0, []),
   (5, 3, .ifCond .eq 21, 26, 0, 0, []),
   (8, 1, .iload_n 2, 0, 0, 0, []),
   (9, 1, .iconst 0, 0, 0, 0, []),
   (10, 1, .iconst 1, 0, 0, 1, []),
   (11, 3, .invokestatic 53, 117, 3, 0, []),
   (14, 3, .ifCond .eq 12, 26, 0, 0, [])],
  [(17, 1, .aload_n 0, 0, 0, 0, []),
   (18, 1, .iload_n 1, 0, 0, 0, []),
   (19, 1, .iload_n 2, 0, 0, 0, []),
   (20, 3, .invokevirtual 156, 150, 802, 0, []),
   (23, 3, .goto 8, 31, 0, 0, []),
   (26, 1, .aload_n 0, 0, 0, 0, []),
   (27, 1, .iconst 1, 0, 0, 1, []),
   (28, 3, .invokevirtual 65, 116, 801, 0, []),
   (31, 1, .ireturn, 0, 0, 0, [])]]
def cd_178 : aCd := [
  [(0, 1, .aload_n 0, 0, 0, 0, []),
   (1, 1, .iload_n 1, 0, 0, 0, []),
   (2, 3, .invokevirtual 191, 122, 801, 0, []),
   (5, 3, .ifCond .eq 21, 26, 0, 0, []),
   (8, 1, .iload_n 2, 0, 0, 0, []),
   (9, 1, .iconst 0, 0, 0, 0, []),
   (10, 1, .iconst 1, 0, 0, 1, []),
   (11, 3, .invokestatic 53, 117, 3, 0, []),
   (14, 3, .ifCond .eq 12, 26, 0, 0, [])],
  [(17, 1, .aload_n 0, 0, 0, 0, []),
   (18, 1, .iload_n 1, 0, 0, 0, []),
   (19, 1, .iload_n 2, 0, 0, 0, []),
   (20, 3, .invokevirtual 182, 159, 802, 0, []),
   (23, 3, .goto 8, 31, 0, 0, []),
   (26, 1, .aload_n 0, 0, 0, 0, []),
   (27, 1, .iconst 1, 0, 0, 1, []),
   (28, 3, .invokevirtual 65, 116, 801, 0, []),
   (31, 1, .ireturn, 0, 0, 0, [])]]
def cd_179 : aCd := [
  [(0, 1, .iload_n 1, 0, 0, 0, []),
   (1, 1, .iconst 1, 0, 0, 1, []),
   (2, 2, .bipush 40, 0, 0, 40, []),
   (4, 3, .invokestatic 53, 117, 3, 0, []),
   (7, 3, .ifCond .ne 9, 16, 0, 0, []),
   (10, 1, .aload_n 0, 0, 0, 0, []),
   (11, 1, .iconst 1, 0, 0, 1, []),
   (12, 3, .invokevirtual 65, 116, 801, 0, []),
   (15, 1, .ireturn, 0, 0, 0, [])],
  [(16, 1, .aload_n 0, 0, 0, 0, []),
   (17, 3, .getfield 7, 8, 0, 0, []),
   (20, 1, .iconst 0, 0, 0, 0, []),
   (21, 1, .iaload, 0, 0, 0, []),
   (22, 1, .iload_n 1, 0, 0, 0, []),
   (23, 1, .iadd, 0, 0, 0, []),
   (24, 3, .sipush 9999, 0, 0, 9999, []),
   (27, 3, .if_icmp .le 9, 36, 0, 0, []),
   (30, 1, .aload_n 0, 0, 0, 0, []),
   (31, 1, .iconst 3, 0, 0, 3, [])],
  [(32, 3, .invokevirtual 65, 116, 801, 0, []),
   (35, 1, .ireturn, 0, 0, 0, []),
   (36, 1, .iconst 0, 0, 0, 0, []),
   (37, 1, .istore_n 2, 0, 0, 0, []),
   (38, 1, .iload_n 2, 0, 0, 0, []),
   (39, 1, .iload_n 1, 0, 0, 0, []),
   (40, 3, .if_icmp .ge 14, 54, 0, 0, []),
   (43, 1, .aload_n 0, 0, 0, 0, []),
   (44, 3, .invokevirtual 212, 162, 800, 0, []),
   (47, 1, .istore_n 3, 0, 0, 0, [])],
  [(48, 3, .iinc 2 1, 0, 0, 1, []),
   (51, 3, .goto (-13), 38, 0, 0, []),
   (54, 1, .aload_n 0, 0, 0, 0, []),
   (55, 3, .getfield 7, 8, 0, 0, []),
   (58, 1, .iconst 1, 0, 0, 1, []),
   (59, 1, .iaload, 0, 0, 0, []),
   (60, 1, .ireturn, 0, 0, 0, [])]]
def cd_180 : aCd := [
  [(0, 1, .iload_n 1, 0, 0, 0, []),
   (1, 1, .iconst 0, 0, 0, 0, []),
   (2, 2, .bipush 9, 0, 0, 9, []),
   (4, 3, .invokestatic 53, 117, 3, 0, []),
   (7, 3, .ifCond .ne 9, 16, 0, 0, []),
   (10, 1, .aload_n 0, 0, 0, 0, []),
   (11, 1, .iconst 1, 0, 0, 1, []),
   (12, 3, .invokevirtual 65, 116, 801, 0, []),
   (15, 1, .ireturn, 0, 0, 0, [])],
  [(16, 1, .iconst 0, 0, 0, 0, []),
   (17, 1, .istore_n 2, 0, 0, 0, []),
   (18, 1, .iconst 0, 0, 0, 0, []),
   (19, 1, .istore_n 3, 0, 0, 0, []),
   (20, 1, .iload_n 3, 0, 0, 0, []),
   (21, 1, .aload_n 0, 0, 0, 0, []),
   (22, 3, .getfield 7, 8, 0, 0, []),
   (25, 2, .bipush 8, 0, 0, 8, []),
   (27, 1, .iaload, 0, 0, 0, []),
   (28, 3, .if_icmp .ge 37, 65, 0, 0, []),
   (31, 1, .aload_n 0, 0, 0, 0, [])],
  [(32, 1, .iload_n 3, 0, 0, 0, []),
   (33, 3, .invokevirtual 61, 129, 801, 0, []),
   (36, 3, .ifCond .eq 23, 59, 0, 0, []),
   (39, 1, .aload_n 0, 0, 0, 0, []),
   (40, 1, .iload_n 3, 0, 0, 0, []),
   (41, 1, .iconst 3, 0, 0, 3, []),
   (42, 3, .invokevirtual 57, 126, 802, 0, []),
   (45, 1, .iload_n 1, 0, 0, 0, []),
   (46, 3, .if_icmp .lt 13, 59, 0, 0, [])],
  [(49, 1, .aload_n 0, 0, 0, 0, []),
   (50, 1, .iload_n 3, 0, 0, 0, []),
   (51, 1, .iconst 5, 0, 0, 5, []),
   (52, 1, .iconst 0, 0, 0, 0, []),
   (53, 3, .invokevirtual 168, 127, 803, 0, []),
   (56, 3, .iinc 2 1, 0, 0, 1, []),
   (59, 3, .iinc 3 1, 0, 0, 1, []),
   (62, 3, .goto (-42), 20, 0, 0, [])],
  [(65, 1, .aload_n 0, 0, 0, 0, []),
   (66, 1, .iconst 3, 0, 0, 3, []),
   (67, 1, .iload_n 2, 0, 0, 0, []),
   (68, 3, .invokevirtual 172, 158, 802, 0, []),
   (71, 1, .iload_n 2, 0, 0, 0, []),
   (72, 1, .ireturn, 0, 0, 0, [])]]
def cd_181 : aCd := [
  [(0, 1, .aload_n 0, 0, 0, 0, []),
   (1, 1, .iconst 4, 0, 0, 4, []),
   (2, 1, .iload_n 1, 0, 0, 0, []),
   (3, 3, .invokevirtual 197, 128, 802, 0, []),
   (6, 1, .ireturn, 0, 0, 0, [])]]
def cd_182 : aCd := [
  [(0, 1, .aload_n 0, 0, 0, 0, []),
   (1, 1, .iload_n 1, 0, 0, 0, []),
   (2, 3, .invokevirtual 191, 122, 801, 0, []),
   (5, 3, .ifCond .eq 21, 26, 0, 0, []),
   (8, 1, .iload_n 2, 0, 0, 0, []),
   (9, 1, .iconst 0, 0, 0, 0, []),
   (10, 1, .iconst 1, 0, 0, 1, []),
   (11, 3, .invokestatic 53, 117, 3, 0, []),
   (14, 3, .ifCond .eq 12, 26, 0, 0, [])],
  [(17, 1, .iload_n 3, 0, 0, 0, []),
   (18, 1, .iconst 0, 0, 0, 0, []),
   (19, 1, .iconst 1, 0, 0, 1, []),
   (20, 3, .invokestatic 53, 117, 3, 0, []),
   (23, 3, .ifCond .ne 9, 32, 0, 0, []),
   (26, 1, .aload_n 0, 0, 0, 0, []),
   (27, 1, .iconst 1, 0, 0, 1, []),
   (28, 3, .invokevirtual 65, 116, 801, 0, []),
   (31, 1, .ireturn, 0, 0, 0, [])],
  [(32, 1, .aload_n 0, 0, 0, 0, []),
   (33, 1, .iload_n 1, 0, 0, 0, []),
   (34, 1, .iload_n 2, 0, 0, 0, []),
   (35, 3, .invokevirtual 165, 157, 802, 0, []),
   (38, 2, .istore 4, 0, 0, 0, []),
   (40, 1, .iload_n 3, 0, 0, 0, []),
   (41, 3, .ifCond .ne 8, 49, 0, 0, []),
   (44, 2, .iload 4, 0, 0, 0, []),
   (46, 3, .goto 21, 67, 0, 0, [])],
  [(49, 2, .iload 4, 0, 0, 0, []),
   (51, 1, .iconst (-1), 0, 0, -1, []),
   (52, 3, .if_icmp .ne 7, 59, 0, 0, []),
   (55, 1, .iconst 0, 0, 0, 0, []),
   (56, 3, .goto 11, 67, 0, 0, []),
   (59, 1, .aload_n 0, 0, 0, 0, []),
   (60, 1, .iload_n 1, 0, 0, 0, []),
   (61, 2, .iload 4, 0, 0, 0, []),
   (63, 1, .iload_n 2, 0, 0, 0, [])],
  [(64, 3, .invokevirtual 162, 155, 803, 0, []),
   (67, 1, .ireturn, 0, 0, 0, [])]]
def cd_183 : aCd := [
  [(0, 1, .aload_n 0, 0, 0, 0, []),
   (1, 1, .iload_n 1, 0, 0, 0, []),
   (2, 3, .invokevirtual 203, 123, 801, 0, []),
   (5, 3, .ifCond .eq 12, 17, 0, 0, []),
   (8, 1, .iload_n 2, 0, 0, 0, []),
   (9, 1, .iconst 0, 0, 0, 0, []),
   (10, 1, .iconst 1, 0, 0, 1, []),
   (11, 3, .invokestatic 53, 117, 3, 0, []),
   (14, 3, .ifCond .ne 9, 23, 0, 0, [])],
  [(17, 1, .aload_n 0, 0, 0, 0, []),
   (18, 1, .iconst 1, 0, 0, 1, []),
   (19, 3, .invokevirtual 65, 116, 801, 0, []),
   (22, 1, .ireturn, 0, 0, 0, []),
   (23, 1, .iconst 0, 0, 0, 0, []),
   (24, 1, .istore_n 3, 0, 0, 0, []),
   (25, 1, .iconst 0, 0, 0, 0, []),
   (26, 2, .istore 4, 0, 0, 0, []),
   (28, 2, .iload 4, 0, 0, 0, []),
   (30, 1, .aload_n 0, 0, 0, 0, []),
   (31, 3, .getfield 7, 8, 0, 0, [])],
  [(34, 2, .bipush 7, 0, 0, 7, []),
   (36, 1, .iaload, 0, 0, 0, []),
   (37, 3, .if_icmp .ge 31, 68, 0, 0, []),
   (40, 1, .iload_n 3, 0, 0, 0, []),
   (41, 1, .aload_n 0, 0, 0, 0, []),
   (42, 2, .iload 4, 0, 0, 0, []),
   (44, 1, .iload_n 2, 0, 0, 0, []),
   (45, 3, .invokevirtual 165, 157, 802, 0, [])],
  [(48, 1, .iload_n 1, 0, 0, 0, []),
   (49, 3, .if_icmp .ne 10, 59, 0, 0, []),
   (52, 1, .iconst 1, 0, 0, 1, []),
   (53, 2, .iload 4, 0, 0, 0, []),
   (55, 1, .ishl, 0, 0, 0, []),
   (56, 3, .goto 4, 60, 0, 0, []),
   (59, 1, .iconst 0, 0, 0, 0, []),
   (60, 1, .ior, 0, 0, 0, []),
   (61, 1, .istore_n 3, 0, 0, 0, []),
   (62, 3, .iinc 4 1, 0, 0, 1, [])],
  [(65, 3, .goto (-37), 28, 0, 0, []),
   (68, 1, .iload_n 3, 0, 0, 0, []),
   (69, 1, .ireturn, 0, 0, 0, [])]]
def cd_184 : aCd := [
  [(0, 1, .iconst 0, 0, 0, 0, []),
   (1, 1, .istore_n 2, 0, 0, 0, []),
   (2, 1, .iconst 0, 0, 0, 0, []),
   (3, 1, .istore_n 3, 0, 0, 0, []),
   (4, 1, .iload_n 3, 0, 0, 0, []),
   (5, 1, .aload_n 0, 0, 0, 0, []),
   (6, 3, .getfield 7, 8, 0, 0, []),
   (9, 2, .bipush 7, 0, 0, 7, []),
   (11, 1, .iaload, 0, 0, 0, []),
   (12, 3, .if_icmp .ge 72, 84, 0, 0, []),
   (15, 1, .iload_n 3, 0, 0, 0, [])],
  [(16, 1, .aload_n 0, 0, 0, 0, []),
   (17, 1, .iload_n 1, 0, 0, 0, []),
   (18, 1, .iconst 0, 0, 0, 0, []),
   (19, 3, .invokevirtual 57, 126, 802, 0, []),
   (22, 3, .if_icmp .eq 7, 29, 0, 0, []),
   (25, 1, .iconst 1, 0, 0, 1, []),
   (26, 3, .goto 4, 30, 0, 0, []),
   (29, 1, .iconst 0, 0, 0, 0, []),
   (30, 2, .istore 4, 0, 0, 0, [])],
  [(32, 1, .iload_n 2, 0, 0, 0, []),
   (33, 2, .iload 4, 0, 0, 0, []),
   (35, 3, .ifCond .eq 17, 52, 0, 0, []),
   (38, 1, .aload_n 0, 0, 0, 0, []),
   (39, 1, .iload_n 3, 0, 0, 0, []),
   (40, 1, .iconst 0, 0, 0, 0, []),
   (41, 3, .invokevirtual 165, 157, 802, 0, []),
   (44, 1, .iload_n 1, 0, 0, 0, []),
   (45, 3, .if_icmp .ne 7, 52, 0, 0, [])],
  [(48, 1, .iconst 1, 0, 0, 1, []),
   (49, 3, .goto 4, 53, 0, 0, []),
   (52, 1, .iconst 0, 0, 0, 0, []),
   (53, 1, .iadd, 0, 0, 0, []),
   (54, 1, .istore_n 2, 0, 0, 0, []),
   (55, 1, .iload_n 2, 0, 0, 0, []),
   (56, 2, .iload 4, 0, 0, 0, []),
   (58, 3, .ifCond .eq 17, 75, 0, 0, []),
   (61, 1, .aload_n 0, 0, 0, 0, []),
   (62, 1, .iload_n 3, 0, 0, 0, []),
   (63, 1, .iconst 1, 0, 0, 1, [])],
  [(64, 3, .invokevirtual 165, 157, 802, 0, []),
   (67, 1, .iload_n 1, 0, 0, 0, []),
   (68, 3, .if_icmp .ne 7, 75, 0, 0, []),
   (71, 1, .iconst 1, 0, 0, 1, []),
   (72, 3, .goto 4, 76, 0, 0, []),
   (75, 1, .iconst 0, 0, 0, 0, []),
   (76, 1, .iadd, 0, 0, 0, []),
   (77, 1, .istore_n 2, 0, 0, 0, []),
   (78, 3, .iinc 3 1, 0, 0, 1, [])],
  [(81, 3, .goto (-77), 4, 0, 0, []),
   (84, 1, .iload_n 2, 0, 0, 0, []),
   (85, 1, .ireturn, 0, 0, 0, [])]]
def cd_185 : aCd := [
  [(0, 1, .aload_n 0, 0, 0, 0, []),
   (1, 1, .iload_n 1, 0, 0, 0, []),
   (2, 3, .invokevirtual 203, 123, 801, 0, []),
   (5, 3, .ifCond .ne 9, 14, 0, 0, []),
   (8, 1, .aload_n 0, 0, 0, 0, []),
   (9, 1, .iconst 1, 0, 0, 1, []),
   (10, 3, .invokevirtual 65, 116, 801, 0, []),
   (13, 1, .ireturn, 0, 0, 0, []),
   (14, 1, .aload_n 0, 0, 0, 0, []),
   (15, 1, .iload_n 1, 0, 0, 0, [])],
  [(16, 3, .invokevirtual 61, 129, 801, 0, []),
   (19, 3, .ifCond .ne 9, 28, 0, 0, []),
   (22, 1, .aload_n 0, 0, 0, 0, []),
   (23, 1, .iconst 3, 0, 0, 3, []),
   (24, 3, .invokevirtual 65, 116, 801, 0, []),
   (27, 1, .ireturn, 0, 0, 0, []),
   (28, 1, .aload_n 0, 0, 0, 0, []),
   (29, 1, .iload_n 1, 0, 0, 0, []),
   (30, 1, .iconst 1, 0, 0, 1, []),
   (31, 3, .invokevirtual 57, 126, 802, 0, [])],
  [(34, 1, .istore_n 2, 0, 0, 0, []),
   (35, 1, .iconst (-1), 0, 0, -1, []),
   (36, 1, .istore_n 3, 0, 0, 0, []),
   (37, 1, .iconst 0, 0, 0, 0, []),
   (38, 2, .istore 4, 0, 0, 0, []),
   (40, 1, .iconst 0, 0, 0, 0, []),
   (41, 2, .istore 5, 0, 0, 0, []),
   (43, 2, .iload 5, 0, 0, 0, []),
   (45, 1, .iconst 2, 0, 0, 2, []),
   (46, 3, .if_icmp .gt 69, 115, 0, 0, [])],
  [(49, 1, .aload_n 0, 0, 0, 0, []),
   (50, 1, .iload_n 1, 0, 0, 0, []),
   (51, 1, .iconst 1, 0, 0, 1, []),
   (52, 2, .iload 5, 0, 0, 0, []),
   (54, 3, .invokevirtual 168, 127, 803, 0, []),
   (57, 1, .aload_n 0, 0, 0, 0, []),
   (58, 1, .iload_n 1, 0, 0, 0, []),
   (59, 3, .invokevirtual 215, 184, 801, 0, []),
   (62, 2, .istore 6, 0, 0, 0, [])],
  [(64, 1, .iload_n 3, 0, 0, 0, []),
   (65, 1, .iconst (-1), 0, 0, -1, []),
   (66, 3, .if_icmp .eq 10, 76, 0, 0, []),
   (69, 2, .iload 6, 0, 0, 0, []),
   (71, 2, .iload 4, 0, 0, 0, []),
   (73, 3, .if_icmp .ge 7, 80, 0, 0, []),
   (76, 1, .iconst 1, 0, 0, 1, []),
   (77, 3, .goto 4, 81, 0, 0, [])],
  [(80, 1, .iconst 0, 0, 0, 0, []),
   (81, 2, .istore 7, 0, 0, 0, []),
   (83, 2, .iload 7, 0, 0, 0, []),
   (85, 3, .ifCond .eq 8, 93, 0, 0, []),
   (88, 2, .iload 5, 0, 0, 0, []),
   (90, 3, .goto 4, 94, 0, 0, []),
   (93, 1, .iload_n 3, 0, 0, 0, []),
   (94, 1, .istore_n 3, 0, 0, 0, []),
   (95, 2, .iload 7, 0, 0, 0, [])],
  [(97, 3, .ifCond .eq 8, 105, 0, 0, []),
   (100, 2, .iload 6, 0, 0, 0, []),
   (102, 3, .goto 5, 107, 0, 0, []),
   (105, 2, .iload 4, 0, 0, 0, []),
   (107, 2, .istore 4, 0, 0, 0, []),
   (109, 3, .iinc 5 1, 0, 0, 1, [])],
  [(112, 3, .goto (-69), 43, 0, 0, []),
   (115, 1, .aload_n 0, 0, 0, 0, []),
   (116, 1, .iload_n 1, 0, 0, 0, []),
   (117, 1, .iconst 1, 0, 0, 1, []),
   (118, 1, .iload_n 2, 0, 0, 0, []),
   (119, 3, .invokevirtual 168, 127, 803, 0, []),
   (122, 1, .iload_n 3, 0, 0, 0, []),
   (123, 1, .ireturn, 0, 0, 0, [])]]
def cd_186 : aCd := [
  [(0, 1, .iconst 1, 0, 0, 1, []),
   (1, 1, .istore_n 2, 0, 0, 0, []),
   (2, 1, .iconst 0, 0, 0, 0, []),
   (3, 1, .istore_n 3, 0, 0, 0, []),
   (4, 1, .iload_n 3, 0, 0, 0, []),
   (5, 1, .aload_n 0, 0, 0, 0, []),
   (6, 3, .getfield 7, 8, 0, 0, []),
   (9, 2, .bipush 7, 0, 0, 7, []),
   (11, 1, .iaload, 0, 0, 0, []),
   (12, 3, .if_icmp .ge 123, 135, 0, 0, []),
   (15, 1, .iload_n 2, 0, 0, 0, [])],
  [(16, 3, .ifCond .eq 119, 135, 0, 0, []),
   (19, 1, .iconst (-1), 0, 0, -1, []),
   (20, 2, .istore 4, 0, 0, 0, []),
   (22, 1, .iconst 0, 0, 0, 0, []),
   (23, 2, .istore 5, 0, 0, 0, []),
   (25, 1, .iconst 0, 0, 0, 0, []),
   (26, 2, .istore 6, 0, 0, 0, []),
   (28, 2, .iload 6, 0, 0, 0, []),
   (30, 1, .aload_n 0, 0, 0, 0, []),
   (31, 3, .getfield 7, 8, 0, 0, [])],
  [(34, 2, .bipush 8, 0, 0, 8, []),
   (36, 1, .iaload, 0, 0, 0, []),
   (37, 3, .if_icmp .ge 69, 106, 0, 0, []),
   (40, 1, .iload_n 1, 0, 0, 0, []),
   (41, 2, .iload 6, 0, 0, 0, []),
   (43, 1, .ishr, 0, 0, 0, []),
   (44, 1, .iconst 1, 0, 0, 1, []),
   (45, 1, .iand, 0, 0, 0, []),
   (46, 1, .iconst 1, 0, 0, 1, []),
   (47, 3, .if_icmp .ne 7, 54, 0, 0, [])],
  [(50, 1, .iconst 0, 0, 0, 0, []),
   (51, 3, .goto 15, 66, 0, 0, []),
   (54, 1, .aload_n 0, 0, 0, 0, []),
   (55, 3, .getfield 31, 8, 12, 0, []),
   (58, 2, .bipush 10, 0, 0, 10, []),
   (60, 1, .iload_n 3, 0, 0, 0, []),
   (61, 1, .imul, 0, 0, 0, []),
   (62, 2, .iload 6, 0, 0, 0, [])],
  [(64, 1, .iadd, 0, 0, 0, []),
   (65, 1, .iaload, 0, 0, 0, []),
   (66, 2, .istore 7, 0, 0, 0, []),
   (68, 2, .iload 7, 0, 0, 0, []),
   (70, 2, .iload 5, 0, 0, 0, []),
   (72, 3, .if_icmp .le 8, 80, 0, 0, []),
   (75, 2, .iload 6, 0, 0, 0, []),
   (77, 3, .goto 5, 82, 0, 0, [])],
  [(80, 2, .iload 4, 0, 0, 0, []),
   (82, 2, .istore 4, 0, 0, 0, []),
   (84, 2, .iload 7, 0, 0, 0, []),
   (86, 2, .iload 5, 0, 0, 0, []),
   (88, 3, .if_icmp .le 8, 96, 0, 0, []),
   (91, 2, .iload 7, 0, 0, 0, []),
   (93, 3, .goto 5, 98, 0, 0, [])],
  [(96, 2, .iload 5, 0, 0, 0, []),
   (98, 2, .istore 5, 0, 0, 0, []),
   (100, 3, .iinc 6 1, 0, 0, 1, []),
   (103, 3, .goto (-75), 28, 0, 0, []),
   (106, 2, .iload 4, 0, 0, 0, []),
   (108, 1, .iconst (-1), 0, 0, -1, []),
   (109, 3, .if_icmp .eq 14, 123, 0, 0, [])],
  [(112, 1, .aload_n 0, 0, 0, 0, []),
   (113, 2, .iload 4, 0, 0, 0, []),
   (115, 1, .iconst 0, 0, 0, 0, []),
   (116, 3, .invokevirtual 57, 126, 802, 0, []),
   (119, 1, .iload_n 3, 0, 0, 0, []),
   (120, 3, .if_icmp .ne 7, 127, 0, 0, []),
   (123, 1, .iconst 1, 0, 0, 1, []),
   (124, 3, .goto 4, 128, 0, 0, []),
   (127, 1, .iconst 0, 0, 0, 0, [])],
  [(128, 1, .istore_n 2, 0, 0, 0, []),
   (129, 3, .iinc 3 1, 0, 0, 1, []),
   (132, 3, .goto (-128), 4, 0, 0, []),
   (135, 1, .iload_n 2, 0, 0, 0, []),
   (136, 1, .ireturn, 0, 0, 0, [])]]
def cd_187 : aCd := [
  [(0, 1, .iconst 0, 0, 0, 0, []),
   (1, 1, .istore_n 1, 0, 0, 0, []),
   (2, 1, .iload_n 0, 0, 0, 0, []),
   (3, 1, .istore_n 2, 0, 0, 0, []),
   (4, 1, .iload_n 2, 0, 0, 0, []),
   (5, 3, .ifCond .eq 15, 20, 0, 0, []),
   (8, 3, .iinc 1 1, 0, 0, 1, []),
   (11, 1, .iload_n 2, 0, 0, 0, []),
   (12, 1, .iload_n 2, 0, 0, 0, []),
   (13, 1, .iconst 1, 0, 0, 1, []),
   (14, 1, .isub, 0, 0, 0, []),
   (15, 1, .iand, 0, 0, 0, [])],
  [(16, 1, .istore_n 2, 0, 0, 0, []),
   (17, 3, .goto (-13), 4, 0, 0, []),
   (20, 1, .iload_n 1, 0, 0, 0, []),
   (21, 1, .ireturn, 0, 0, 0, [])]]
def cd_188 : aCd := [
  [(0, 1, .iload_n 1, 0, 0, 0, []),
   (1, 1, .iconst 0, 0, 0, 0, []),
   (2, 1, .iconst 1, 0, 0, 1, []),
   (3, 3, .invokestatic 53, 117, 3, 0, []),
   (6, 3, .ifCond .ne 9, 15, 0, 0, []),
   (9, 1, .aload_n 0, 0, 0, 0, []),
   (10, 1, .iconst 1, 0, 0, 1, []),
   (11, 3, .invokevirtual 65, 116, 801, 0, []),
   (14, 1, .ireturn, 0, 0, 0, []),
   (15, 1, .iconst 0, 0, 0, 0, [])],
  [(16, 1, .istore_n 2, 0, 0, 0, []),
   (17, 1, .iconst 0, 0, 0, 0, []),
   (18, 1, .istore_n 3, 0, 0, 0, []),
   (19, 1, .iload_n 3, 0, 0, 0, []),
   (20, 1, .aload_n 0, 0, 0, 0, []),
   (21, 3, .getfield 7, 8, 0, 0, []),
   (24, 2, .bipush 8, 0, 0, 8, []),
   (26, 1, .iaload, 0, 0, 0, []),
   (27, 3, .if_icmp .ge 80, 107, 0, 0, []),
   (30, 1, .iload_n 2, 0, 0, 0, []),
   (31, 1, .aload_n 0, 0, 0, 0, [])],
  [(32, 1, .iload_n 3, 0, 0, 0, []),
   (33, 3, .invokevirtual 159, 156, 801, 0, []),
   (36, 3, .ifCond .eq 9, 45, 0, 0, []),
   (39, 1, .iconst 1, 0, 0, 1, []),
   (40, 1, .iload_n 3, 0, 0, 0, []),
   (41, 1, .ishl, 0, 0, 0, []),
   (42, 3, .goto 4, 46, 0, 0, []),
   (45, 1, .iconst 0, 0, 0, 0, []),
   (46, 1, .ior, 0, 0, 0, []),
   (47, 1, .istore_n 2, 0, 0, 0, [])],
  [(48, 1, .iconst 0, 0, 0, 0, []),
   (49, 2, .istore 4, 0, 0, 0, []),
   (51, 2, .iload 4, 0, 0, 0, []),
   (53, 1, .aload_n 0, 0, 0, 0, []),
   (54, 3, .getfield 7, 8, 0, 0, []),
   (57, 2, .bipush 7, 0, 0, 7, []),
   (59, 1, .iaload, 0, 0, 0, []),
   (60, 3, .if_icmp .ge 41, 101, 0, 0, []),
   (63, 1, .aload_n 0, 0, 0, 0, [])],
  [(64, 3, .getfield 31, 8, 12, 0, []),
   (67, 2, .bipush 10, 0, 0, 10, []),
   (69, 2, .iload 4, 0, 0, 0, []),
   (71, 1, .imul, 0, 0, 0, []),
   (72, 1, .iload_n 3, 0, 0, 0, []),
   (73, 1, .iadd, 0, 0, 0, []),
   (74, 1, .aload_n 0, 0, 0, 0, []),
   (75, 1, .iload_n 3, 0, 0, 0, []),
   (76, 3, .invokevirtual 159, 156, 801, 0, []),
   (79, 3, .ifCond .eq 14, 93, 0, 0, [])],
  [(82, 1, .aload_n 0, 0, 0, 0, []),
   (83, 2, .iload 4, 0, 0, 0, []),
   (85, 1, .iload_n 3, 0, 0, 0, []),
   (86, 1, .iconst 0, 0, 0, 0, []),
   (87, 3, .invokevirtual 162, 155, 803, 0, []),
   (90, 3, .goto 4, 94, 0, 0, []),
   (93, 1, .iconst 0, 0, 0, 0, []),
   (94, 1, .iastore, 0, 0, 0, []),
   (95, 3, .iinc 4 1, 0, 0, 1, [])],
  [(98, 3, .goto (-47), 51, 0, 0, []),
   (101, 3, .iinc 3 1, 0, 0, 1, []),
   (104, 3, .goto (-85), 19, 0, 0, []),
   (107, 1, .iload_n 2, 0, 0, 0, []),
   (108, 1, .istore_n 3, 0, 0, 0, []),
   (109, 1, .iconst 0, 0, 0, 0, []),
   (110, 2, .istore 4, 0, 0, 0, [])],
  [(112, 2, .iload 4, 0, 0, 0, []),
   (114, 1, .iload_n 2, 0, 0, 0, []),
   (115, 3, .if_icmp .gt 76, 191, 0, 0, []),
   (118, 2, .iload 4, 0, 0, 0, []),
   (120, 1, .iload_n 2, 0, 0, 0, []),
   (121, 1, .iconst (-1), 0, 0, -1, []),
   (122, 1, .ixor, 0, 0, 0, []),
   (123, 1, .iand, 0, 0, 0, []),
   (124, 3, .ifCond .ne 37, 161, 0, 0, []),
   (127, 2, .iload 4, 0, 0, 0, [])],
  [(129, 3, .invokestatic 218, 187, 1, 0, []),
   (132, 1, .iload_n 3, 0, 0, 0, []),
   (133, 3, .invokestatic 218, 187, 1, 0, []),
   (136, 3, .if_icmp .lt 21, 157, 0, 0, []),
   (139, 2, .iload 4, 0, 0, 0, []),
   (141, 3, .invokestatic 218, 187, 1, 0, [])],
  [(144, 1, .iload_n 3, 0, 0, 0, []),
   (145, 3, .invokestatic 218, 187, 1, 0, []),
   (148, 3, .if_icmp .ne 13, 161, 0, 0, []),
   (151, 2, .iload 4, 0, 0, 0, []),
   (153, 1, .iload_n 3, 0, 0, 0, []),
   (154, 3, .if_icmp .ge 7, 161, 0, 0, []),
   (157, 1, .iconst 1, 0, 0, 1, []),
   (158, 3, .goto 4, 162, 0, 0, [])],
  [(161, 1, .iconst 0, 0, 0, 0, []),
   (162, 2, .istore 5, 0, 0, 0, []),
   (164, 2, .iload 5, 0, 0, 0, []),
   (166, 3, .ifCond .eq 17, 183, 0, 0, []),
   (169, 1, .aload_n 0, 0, 0, 0, []),
   (170, 2, .iload 4, 0, 0, 0, []),
   (172, 3, .invokevirtual 221, 186, 801, 0, []),
   (175, 3, .ifCond .eq 8, 183, 0, 0, [])],
  [(178, 2, .iload 4, 0, 0, 0, []),
   (180, 3, .goto 4, 184, 0, 0, []),
   (183, 1, .iload_n 3, 0, 0, 0, []),
   (184, 1, .istore_n 3, 0, 0, 0, []),
   (185, 3, .iinc 4 1, 0, 0, 1, []),
   (188, 3, .goto (-76), 112, 0, 0, []),
   (191, 1, .iload_n 1, 0, 0, 0, [])],
  [(192, 3, .ifCond .ne 10, 202, 0, 0, []),
   (195, 1, .iload_n 3, 0, 0, 0, []),
   (196, 3, .invokestatic 218, 187, 1, 0, []),
   (199, 3, .goto 4, 203, 0, 0, []),
   (202, 1, .iload_n 3, 0, 0, 0, []),
   (203, 1, .ireturn, 0, 0, 0, [])]]
def cd_189 : aCd := [
  [(0, 1, .aload_n 0, 0, 0, 0, []),
   (1, 1, .iload_n 1, 0, 0, 0, []),
   (2, 1, .iconst 0, 0, 0, 0, []),
   (3, 3, .invokevirtual 165, 157, 802, 0, []),
   (6, 1, .istore_n 2, 0, 0, 0, []),
   (7, 1, .iload_n 2, 0, 0, 0, []),
   (8, 1, .iconst (-1), 0, 0, -1, []),
   (9, 3, .if_icmp .eq 13, 22, 0, 0, []),
   (12, 1, .aload_n 0, 0, 0, 0, []),
   (13, 1, .iload_n 2, 0, 0, 0, []),
   (14, 1, .iconst 0, 0, 0, 0, []),
   (15, 3, .invokevirtual 57, 126, 802, 0, [])],
  [(18, 1, .iload_n 1, 0, 0, 0, []),
   (19, 3, .if_icmp .ne 7, 26, 0, 0, []),
   (22, 1, .iconst (-1), 0, 0, -1, []),
   (23, 3, .goto 9, 32, 0, 0, []),
   (26, 1, .aload_n 0, 0, 0, 0, []),
   (27, 1, .iload_n 2, 0, 0, 0, []),
   (28, 1, .iconst 0, 0, 0, 0, []),
   (29, 3, .invokevirtual 57, 126, 802, 0, [])],
  [(32, 1, .ireturn, 0, 0, 0, [])]]
def cd_190 : aCd := [
  [(0, 1, .aload_n 0, 0, 0, 0, []),
   (1, 1, .iload_n 1, 0, 0, 0, []),
   (2, 3, .invokevirtual 191, 122, 801, 0, []),
   (5, 3, .ifCond .eq 12, 17, 0, 0, []),
   (8, 1, .iload_n 2, 0, 0, 0, []),
   (9, 1, .iconst 0, 0, 0, 0, []),
   (10, 1, .iconst 1, 0, 0, 1, []),
   (11, 3, .invokestatic 53, 117, 3, 0, []),
   (14, 3, .ifCond .ne 9, 23, 0, 0, [])],
  [(17, 1, .aload_n 0, 0, 0, 0, []),
   (18, 1, .iconst 1, 0, 0, 1, []),
   (19, 3, .invokevirtual 65, 116, 801, 0, []),
   (22, 1, .ireturn, 0, 0, 0, []),
   (23, 1, .iconst 0, 0, 0, 0, []),
   (24, 1, .istore_n 3, 0, 0, 0, []),
   (25, 1, .iload_n 3, 0, 0, 0, []),
   (26, 2, .bipush 8, 0, 0, 8, []),
   (28, 3, .if_icmp .ge 16, 44, 0, 0, []),
   (31, 1, .aload_n 0, 0, 0, 0, [])],
  [(32, 3, .getfield 34, 8, 13, 0, []),
   (35, 1, .iload_n 3, 0, 0, 0, []),
   (36, 1, .iconst (-1), 0, 0, -1, []),
   (37, 1, .iastore, 0, 0, 0, []),
   (38, 3, .iinc 3 1, 0, 0, 1, []),
   (41, 3, .goto (-16), 25, 0, 0, []),
   (44, 1, .iconst 0, 0, 0, 0, []),
   (45, 1, .istore_n 3, 0, 0, 0, []),
   (46, 1, .iload_n 1, 0, 0, 0, []),
   (47, 2, .istore 4, 0, 0, 0, [])],
  [(49, 2, .iload 4, 0, 0, 0, []),
   (51, 1, .iconst (-1), 0, 0, -1, []),
   (52, 3, .if_icmp .eq 36, 88, 0, 0, []),
   (55, 1, .aload_n 0, 0, 0, 0, []),
   (56, 3, .getfield 34, 8, 13, 0, []),
   (59, 2, .iload 4, 0, 0, 0, []),
   (61, 1, .iaload, 0, 0, 0, []),
   (62, 1, .iconst (-1), 0, 0, -1, []),
   (63, 3, .if_icmp .ne 25, 88, 0, 0, [])],
  [(66, 1, .aload_n 0, 0, 0, 0, []),
   (67, 3, .getfield 34, 8, 13, 0, []),
   (70, 2, .iload 4, 0, 0, 0, []),
   (72, 1, .iload_n 3, 0, 0, 0, []),
   (73, 1, .iastore, 0, 0, 0, []),
   (74, 3, .iinc 3 1, 0, 0, 1, []),
   (77, 1, .aload_n 0, 0, 0, 0, []),
   (78, 2, .iload 4, 0, 0, 0, [])],
  [(80, 3, .invokevirtual 224, 189, 801, 0, []),
   (83, 2, .istore 4, 0, 0, 0, []),
   (85, 3, .goto (-36), 49, 0, 0, []),
   (88, 2, .iload 4, 0, 0, 0, []),
   (90, 1, .iconst (-1), 0, 0, -1, []),
   (91, 3, .if_icmp .ne 15, 106, 0, 0, []),
   (94, 1, .iload_n 2, 0, 0, 0, []),
   (95, 3, .ifCond .ne 9, 104, 0, 0, [])],
  [(98, 1, .iload_n 3, 0, 0, 0, []),
   (99, 1, .iconst 1, 0, 0, 1, []),
   (100, 1, .isub, 0, 0, 0, []),
   (101, 3, .goto 4, 105, 0, 0, []),
   (104, 1, .iconst 0, 0, 0, 0, []),
   (105, 1, .ireturn, 0, 0, 0, []),
   (106, 1, .iload_n 2, 0, 0, 0, []),
   (107, 3, .ifCond .ne 13, 120, 0, 0, []),
   (110, 1, .aload_n 0, 0, 0, 0, []),
   (111, 3, .getfield 34, 8, 13, 0, [])],
  [(114, 2, .iload 4, 0, 0, 0, []),
   (116, 1, .iaload, 0, 0, 0, []),
   (117, 3, .goto 12, 129, 0, 0, []),
   (120, 1, .iload_n 3, 0, 0, 0, []),
   (121, 1, .aload_n 0, 0, 0, 0, []),
   (122, 3, .getfield 34, 8, 13, 0, []),
   (125, 2, .iload 4, 0, 0, 0, []),
   (127, 1, .iaload, 0, 0, 0, [])],
  [(128, 1, .isub, 0, 0, 0, []),
   (129, 1, .ireturn, 0, 0, 0, [])]]
def cd_191 : aCd := [
  [(0, 1, .iload_n 0, 0, 0, 0, []),
   (1, 1, .istore_n 2, 0, 0, 0, []),
   (2, 1, .iload_n 1, 0, 0, 0, []),
   (3, 1, .istore_n 3, 0, 0, 0, []),
   (4, 1, .iload_n 3, 0, 0, 0, []),
   (5, 3, .ifCond .eq 16, 21, 0, 0, []),
   (8, 1, .iload_n 2, 0, 0, 0, []),
   (9, 1, .iload_n 3, 0, 0, 0, []),
   (10, 1, .irem, 0, 0, 0, []),
   (11, 2, .istore 4, 0, 0, 0, []),
   (13, 1, .iload_n 3, 0, 0, 0, []),
   (14, 1, .istore_n 2, 0, 0, 0, []),
   (15, 2, .iload 4, 0, 0, 0, [])],
  [(17, 1, .istore_n 3, 0, 0, 0, []),
   (18, 3, .goto (-14), 4, 0, 0, []),
   (21, 1, .iload_n 2, 0, 0, 0, []),
   (22, 1, .ireturn, 0, 0, 0, [])]]
def cd_192 : aCd := [
  [(0, 1, .aload_n 0, 0, 0, 0, []),
   (1, 1, .iload_n 1, 0, 0, 0, []),
   (2, 3, .invokevirtual 203, 123, 801, 0, []),
   (5, 3, .ifCond .eq 12, 17, 0, 0, []),
   (8, 1, .iload_n 2, 0, 0, 0, []),
   (9, 1, .iconst 0, 0, 0, 0, []),
   (10, 1, .iconst 1, 0, 0, 1, []),
   (11, 3, .invokestatic 53, 117, 3, 0, []),
   (14, 3, .ifCond .ne 9, 23, 0, 0, [])],
  [(17, 1, .aload_n 0, 0, 0, 0, []),
   (18, 1, .iconst 1, 0, 0, 1, []),
   (19, 3, .invokevirtual 65, 116, 801, 0, []),
   (22, 1, .ireturn, 0, 0, 0, []),
   (23, 1, .iconst 0, 0, 0, 0, []),
   (24, 1, .istore_n 3, 0, 0, 0, []),
   (25, 1, .iconst 0, 0, 0, 0, []),
   (26, 2, .istore 4, 0, 0, 0, []),
   (28, 2, .iload 4, 0, 0, 0, []),
   (30, 1, .aload_n 0, 0, 0, 0, []),
   (31, 3, .getfield 7, 8, 0, 0, [])],
  [(34, 2, .bipush 7, 0, 0, 7, []),
   (36, 1, .iaload, 0, 0, 0, []),
   (37, 3, .if_icmp .ge 47, 84, 0, 0, []),
   (40, 1, .iload_n 3, 0, 0, 0, []),
   (41, 1, .aload_n 0, 0, 0, 0, []),
   (42, 2, .iload 4, 0, 0, 0, []),
   (44, 1, .iconst 0, 0, 0, 0, []),
   (45, 3, .invokevirtual 165, 157, 802, 0, [])],
  [(48, 1, .iload_n 1, 0, 0, 0, []),
   (49, 3, .if_icmp .ne 7, 56, 0, 0, []),
   (52, 1, .iconst 1, 0, 0, 1, []),
   (53, 3, .goto 4, 57, 0, 0, []),
   (56, 1, .iconst 0, 0, 0, 0, []),
   (57, 1, .iadd, 0, 0, 0, []),
   (58, 1, .istore_n 3, 0, 0, 0, []),
   (59, 1, .iload_n 3, 0, 0, 0, []),
   (60, 1, .aload_n 0, 0, 0, 0, []),
   (61, 2, .iload 4, 0, 0, 0, []),
   (63, 1, .iconst 1, 0, 0, 1, [])],
  [(64, 3, .invokevirtual 165, 157, 802, 0, []),
   (67, 1, .iload_n 1, 0, 0, 0, []),
   (68, 3, .if_icmp .ne 7, 75, 0, 0, []),
   (71, 1, .iconst 1, 0, 0, 1, []),
   (72, 3, .goto 4, 76, 0, 0, []),
   (75, 1, .iconst 0, 0, 0, 0, []),
   (76, 1, .iadd, 0, 0, 0, []),
   (77, 1, .istore_n 3, 0, 0, 0, []),
   (78, 3, .iinc 4 1, 0, 0, 1, [])],
  [(81, 3, .goto (-53), 28, 0, 0, []),
   (84, 1, .iconst 2, 0, 0, 2, []),
   (85, 1, .aload_n 0, 0, 0, 0, []),
   (86, 3, .getfield 7, 8, 0, 0, []),
   (89, 2, .bipush 7, 0, 0, 7, []),
   (91, 1, .iaload, 0, 0, 0, []),
   (92, 1, .imul, 0, 0, 0, []),
   (93, 2, .istore 4, 0, 0, 0, []),
   (95, 1, .iload_n 3, 0, 0, 0, [])],
  [(96, 2, .iload 4, 0, 0, 0, []),
   (98, 3, .invokestatic 227, 191, 2, 0, []),
   (101, 2, .istore 5, 0, 0, 0, []),
   (103, 1, .iload_n 2, 0, 0, 0, []),
   (104, 3, .ifCond .ne 10, 114, 0, 0, []),
   (107, 1, .iload_n 3, 0, 0, 0, []),
   (108, 2, .iload 5, 0, 0, 0, []),
   (110, 1, .idiv, 0, 0, 0, []),
   (111, 3, .goto 8, 119, 0, 0, [])],
  [(114, 2, .iload 4, 0, 0, 0, []),
   (116, 2, .iload 5, 0, 0, 0, []),
   (118, 1, .idiv, 0, 0, 0, []),
   (119, 1, .ireturn, 0, 0, 0, [])]]
def cd_193 : aCd := [
  [(0, 1, .aload_n 0, 0, 0, 0, []),
   (1, 1, .iload_n 1, 0, 0, 0, []),
   (2, 3, .invokevirtual 230, 210, 801, 0, []),
   (5, 1, .istore_n 2, 0, 0, 0, []),
   (6, 1, .iload_n 2, 0, 0, 0, []),
   (7, 3, .ifCond .eq 9, 16, 0, 0, []),
   (10, 1, .aload_n 0, 0, 0, 0, []),
   (11, 1, .iload_n 2, 0, 0, 0, []),
   (12, 3, .invokevirtual 65, 116, 801, 0, []),
   (15, 1, .ireturn, 0, 0, 0, [])],
  [(16, 1, .iconst 0, 0, 0, 0, []),
   (17, 1, .istore_n 3, 0, 0, 0, []),
   (18, 1, .aload_n 0, 0, 0, 0, []),
   (19, 3, .invokevirtual 233, 120, 800, 0, []),
   (22, 1, .iconst 0, 0, 0, 0, []),
   (23, 2, .istore 4, 0, 0, 0, []),
   (25, 2, .iload 4, 0, 0, 0, []),
   (27, 1, .aload_n 0, 0, 0, 0, []),
   (28, 3, .getfield 7, 8, 0, 0, []),
   (31, 2, .bipush 7, 0, 0, 7, [])],
  [(33, 1, .iaload, 0, 0, 0, []),
   (34, 3, .if_icmp .ge 96, 130, 0, 0, []),
   (37, 1, .iconst 1, 0, 0, 1, []),
   (38, 2, .istore 5, 0, 0, 0, []),
   (40, 1, .iconst 0, 0, 0, 0, []),
   (41, 2, .istore 6, 0, 0, 0, []),
   (43, 2, .iload 6, 0, 0, 0, []),
   (45, 1, .aload_n 0, 0, 0, 0, []),
   (46, 3, .getfield 43, 8, 19, 0, [])],
  [(49, 1, .iload_n 1, 0, 0, 0, []),
   (50, 1, .iaload, 0, 0, 0, []),
   (51, 3, .if_icmp .ge 53, 104, 0, 0, []),
   (54, 2, .iload 5, 0, 0, 0, []),
   (56, 3, .ifCond .eq 48, 104, 0, 0, []),
   (59, 1, .aload_n 0, 0, 0, 0, []),
   (60, 2, .iload 4, 0, 0, 0, []),
   (62, 1, .iconst 0, 0, 0, 0, []),
   (63, 3, .invokevirtual 182, 159, 802, 0, [])],
  [(66, 2, .istore 7, 0, 0, 0, []),
   (68, 2, .iload 7, 0, 0, 0, []),
   (70, 1, .iconst (-1), 0, 0, -1, []),
   (71, 3, .if_icmp .eq 24, 95, 0, 0, []),
   (74, 2, .iload 7, 0, 0, 0, []),
   (76, 1, .aload_n 0, 0, 0, 0, []),
   (77, 3, .getfield 46, 8, 20, 0, [])],
  [(80, 2, .bipush 24, 0, 0, 24, []),
   (82, 1, .iload_n 1, 0, 0, 0, []),
   (83, 1, .imul, 0, 0, 0, []),
   (84, 2, .iload 6, 0, 0, 0, []),
   (86, 1, .iadd, 0, 0, 0, []),
   (87, 1, .iaload, 0, 0, 0, []),
   (88, 3, .if_icmp .ne 7, 95, 0, 0, []),
   (91, 1, .iconst 1, 0, 0, 1, []),
   (92, 3, .goto 4, 96, 0, 0, []),
   (95, 1, .iconst 0, 0, 0, 0, [])],
  [(96, 2, .istore 5, 0, 0, 0, []),
   (98, 3, .iinc 6 1, 0, 0, 1, []),
   (101, 3, .goto (-58), 43, 0, 0, []),
   (104, 1, .iload_n 3, 0, 0, 0, []),
   (105, 2, .iload 5, 0, 0, 0, []),
   (107, 3, .ifCond .eq 10, 117, 0, 0, []),
   (110, 1, .iconst 1, 0, 0, 1, []),
   (111, 2, .iload 4, 0, 0, 0, [])],
  [(113, 1, .ishl, 0, 0, 0, []),
   (114, 3, .goto 4, 118, 0, 0, []),
   (117, 1, .iconst 0, 0, 0, 0, []),
   (118, 1, .ior, 0, 0, 0, []),
   (119, 1, .istore_n 3, 0, 0, 0, []),
   (120, 1, .aload_n 0, 0, 0, 0, []),
   (121, 3, .invokevirtual 236, 121, 800, 0, []),
   (124, 3, .iinc 4 1, 0, 0, 1, []),
   (127, 3, .goto (-102), 25, 0, 0, [])],
  [(130, 1, .iload_n 3, 0, 0, 0, []),
   (131, 1, .ireturn, 0, 0, 0, [])]]
def cd_194 : aCd := [
  [(0, 1, .iload_n 1, 0, 0, 0, []),
   (1, 1, .iconst 0, 0, 0, 0, []),
   (2, 2, .bipush 60, 0, 0, 60, []),
   (4, 3, .invokestatic 53, 117, 3, 0, []),
   (7, 3, .ifCond .eq 12, 19, 0, 0, []),
   (10, 1, .iload_n 2, 0, 0, 0, []),
   (11, 1, .iconst 0, 0, 0, 0, []),
   (12, 1, .iconst 1, 0, 0, 1, []),
   (13, 3, .invokestatic 53, 117, 3, 0, [])],
  [(16, 3, .ifCond .ne 9, 25, 0, 0, []),
   (19, 1, .aload_n 0, 0, 0, 0, []),
   (20, 1, .iconst 1, 0, 0, 1, []),
   (21, 3, .invokevirtual 65, 116, 801, 0, []),
   (24, 1, .ireturn, 0, 0, 0, []),
   (25, 1, .aload_n 0, 0, 0, 0, []),
   (26, 3, .invokevirtual 233, 120, 800, 0, []),
   (29, 1, .iconst 0, 0, 0, 0, []),
   (30, 1, .istore_n 3, 0, 0, 0, []),
   (31, 1, .iload_n 3, 0, 0, 0, [])],
  [(32, 1, .iload_n 1, 0, 0, 0, []),
   (33, 3, .if_icmp .ge 15, 48, 0, 0, []),
   (36, 1, .aload_n 0, 0, 0, 0, []),
   (37, 3, .invokevirtual 212, 162, 800, 0, []),
   (40, 2, .istore 4, 0, 0, 0, []),
   (42, 3, .iinc 3 1, 0, 0, 1, []),
   (45, 3, .goto (-14), 31, 0, 0, [])],
  [(48, 1, .iload_n 2, 0, 0, 0, []),
   (49, 3, .ifCond .ne 12, 61, 0, 0, []),
   (52, 1, .aload_n 0, 0, 0, 0, []),
   (53, 3, .getfield 7, 8, 0, 0, []),
   (56, 1, .iconst 1, 0, 0, 1, []),
   (57, 1, .iaload, 0, 0, 0, []),
   (58, 3, .goto 7, 65, 0, 0, []),
   (61, 1, .aload_n 0, 0, 0, 0, []),
   (62, 3, .invokevirtual 209, 130, 800, 0, [])],
  [(65, 1, .istore_n 3, 0, 0, 0, []),
   (66, 1, .aload_n 0, 0, 0, 0, []),
   (67, 3, .invokevirtual 236, 121, 800, 0, []),
   (70, 1, .iload_n 3, 0, 0, 0, []),
   (71, 1, .ireturn, 0, 0, 0, [])]]
def cd_195 : aCd := [
  [(0, 1, .iconst (-1), 0, 0, -1, []),
   (1, 1, .istore_n 1, 0, 0, 0, []),
   (2, 1, .iconst 0, 0, 0, 0, []),
   (3, 1, .istore_n 2, 0, 0, 0, []),
   (4, 1, .iload_n 2, 0, 0, 0, []),
   (5, 1, .aload_n 0, 0, 0, 0, []),
   (6, 3, .getfield 7, 8, 0, 0, []),
   (9, 2, .bipush 8, 0, 0, 8, []),
   (11, 1, .iaload, 0, 0, 0, []),
   (12, 3, .if_icmp .ge 43, 55, 0, 0, []),
   (15, 1, .aload_n 0, 0, 0, 0, [])],
  [(16, 1, .iload_n 2, 0, 0, 0, []),
   (17, 3, .invokevirtual 61, 129, 801, 0, []),
   (20, 3, .ifCond .eq 27, 47, 0, 0, []),
   (23, 1, .iload_n 1, 0, 0, 0, []),
   (24, 1, .iconst (-1), 0, 0, -1, []),
   (25, 3, .if_icmp .eq 18, 43, 0, 0, []),
   (28, 1, .aload_n 0, 0, 0, 0, []),
   (29, 1, .iload_n 2, 0, 0, 0, []),
   (30, 1, .iconst 3, 0, 0, 3, []),
   (31, 3, .invokevirtual 57, 126, 802, 0, [])],
  [(34, 1, .aload_n 0, 0, 0, 0, []),
   (35, 1, .iload_n 1, 0, 0, 0, []),
   (36, 1, .iconst 3, 0, 0, 3, []),
   (37, 3, .invokevirtual 57, 126, 802, 0, []),
   (40, 3, .if_icmp .le 7, 47, 0, 0, []),
   (43, 1, .iload_n 2, 0, 0, 0, []),
   (44, 3, .goto 4, 48, 0, 0, []),
   (47, 1, .iload_n 1, 0, 0, 0, [])],
  [(48, 1, .istore_n 1, 0, 0, 0, []),
   (49, 3, .iinc 2 1, 0, 0, 1, []),
   (52, 3, .goto (-48), 4, 0, 0, []),
   (55, 1, .iload_n 1, 0, 0, 0, []),
   (56, 1, .iconst (-1), 0, 0, -1, []),
   (57, 3, .if_icmp .ne 11, 68, 0, 0, []),
   (60, 1, .aload_n 0, 0, 0, 0, []),
   (61, 1, .iconst 2, 0, 0, 2, []),
   (62, 3, .invokevirtual 65, 116, 801, 0, [])],
  [(65, 3, .goto 4, 69, 0, 0, []),
   (68, 1, .iload_n 1, 0, 0, 0, []),
   (69, 1, .ireturn, 0, 0, 0, [])]]
def cd_196 : aCd := [
  [(0, 1, .aload_n 0, 0, 0, 0, []),
   (1, 3, .getfield 239, 8, 14, 0, []),
   (4, 2, .bipush 30, 0, 0, 30, []),
   (6, 3, .if_icmp .ge 23, 29, 0, 0, []),
   (9, 1, .aload_n 0, 0, 0, 0, []),
   (10, 3, .getfield 37, 8, 15, 0, []),
   (13, 1, .aload_n 0, 0, 0, 0, []),
   (14, 3, .getfield 239, 8, 14, 0, [])],
  [(17, 1, .iload_n 1, 0, 0, 0, []),
   (18, 1, .iastore, 0, 0, 0, []),
   (19, 1, .aload_n 0, 0, 0, 0, []),
   (20, 1, .dup, 0, 0, 0, []),
   (21, 3, .getfield 239, 8, 14, 0, []),
   (24, 1, .iconst 1, 0, 0, 1, []),
   (25, 1, .iadd, 0, 0, 0, []),
   (26, 3, .putfield 239, 8, 14, 0, []),
   (29, 1, .return_, 0, 0, 0, [])]]
def cd_197 : aCd := [
  [(0, 1, .iload_n 0, 0, 0, 0, []),
   (1, 1, .iconst 4, 0, 0, 4, []),
   (2, 3, .if_icmp .ne 7, 9, 0, 0, []),
   (5, 1, .iconst 1, 0, 0, 1, []),
   (6, 3, .goto 13, 19, 0, 0, []),
   (9, 1, .iload_n 0, 0, 0, 0, []),
   (10, 1, .iconst 5, 0, 0, 5, []),
   (11, 3, .if_icmp .ne 7, 18, 0, 0, []),
   (14, 1, .iconst 2, 0, 0, 2, []),
   (15, 3, .goto 4, 19, 0, 0, [])],
  [(18, 1, .iconst 0, 0, 0, 0, []),
   (19, 1, .ireturn, 0, 0, 0, [])]]
def cd_198 : aCd := [
  [(0, 1, .aload_n 0, 0, 0, 0, []),
   (1, 1, .aload_n 0, 0, 0, 0, []),
   (2, 3, .getfield 242, 8, 16, 0, []),
   (5, 1, .iconst 0, 0, 0, 0, []),
   (6, 3, .invokevirtual 136, 124, 802, 0, []),
   (9, 1, .ireturn, 0, 0, 0, [])]]
def cd_199 : aCd := [
  [(0, 1, .aload_n 0, 0, 0, 0, []),
   (1, 1, .aload_n 0, 0, 0, 0, []),
   (2, 3, .getfield 242, 8, 16, 0, []),
   (5, 1, .iconst 1, 0, 0, 1, []),
   (6, 3, .invokevirtual 136, 124, 802, 0, []),
   (9, 1, .ireturn, 0, 0, 0, [])]]
def cd_200 : aCd := [
  [(0, 1, .iload_n 1, 0, 0, 0, []),
   (1, 43, .tableswitch 101 0 6 #[43, 56, 101, 101, 74, 101, 92], 102, 0, 0, [(0, 44), (1, 57), (2, 102), (3, 102), (4, 75), (5, 102), (6, 93)])],
  [],
  [(44, 1, .aload_n 0, 0, 0, 0, []),
   (45, 2, .bipush 10, 0, 0, 10, []),
   (47, 3, .invokevirtual 245, 196, 801, 0, [])],
  [(50, 1, .iload_n 2, 0, 0, 0, []),
   (51, 1, .aload_n 0, 0, 0, 0, []),
   (52, 3, .getfield 242, 8, 16, 0, []),
   (55, 1, .iadd, 0, 0, 0, []),
   (56, 1, .ireturn, 0, 0, 0, []),
   (57, 1, .aload_n 0, 0, 0, 0, []),
   (58, 2, .bipush 20, 0, 0, 20, []),
   (60, 3, .invokevirtual 245, 196, 801, 0, []),
   (63, 1, .aload_n 0, 0, 0, 0, [])],
  [(64, 1, .iconst 1, 0, 0, 1, []),
   (65, 3, .invokestatic 200, 197, 1, 0, []),
   (68, 1, .iload_n 2, 0, 0, 0, []),
   (69, 3, .invokevirtual 249, 200, 802, 0, []),
   (72, 1, .iconst 4, 0, 0, 4, []),
   (73, 1, .isub, 0, 0, 0, []),
   (74, 1, .ireturn, 0, 0, 0, []),
   (75, 1, .aload_n 0, 0, 0, 0, []),
   (76, 2, .bipush 50, 0, 0, 50, []),
   (78, 3, .invokevirtual 245, 196, 801, 0, [])],
  [(81, 1, .aload_n 0, 0, 0, 0, []),
   (82, 1, .iconst 4, 0, 0, 4, []),
   (83, 3, .invokestatic 200, 197, 1, 0, []),
   (86, 1, .iload_n 2, 0, 0, 0, []),
   (87, 3, .invokevirtual 249, 200, 802, 0, []),
   (90, 1, .iconst 3, 0, 0, 3, []),
   (91, 1, .imul, 0, 0, 0, []),
   (92, 1, .ireturn, 0, 0, 0, []),
   (93, 1, .aload_n 0, 0, 0, 0, []),
   (94, 2, .bipush 70, 0, 0, 70, [])],
  [(96, 3, .invokevirtual 245, 196, 801, 0, []),
   (99, 2, .bipush 9, 0, 0, 9, []),
   (101, 1, .ireturn, 0, 0, 0, []),
   (102, 1, .aload_n 0, 0, 0, 0, []),
   (103, 1, .iload_n 1, 0, 0, 0, []),
   (104, 3, .invokestatic 200, 197, 1, 0, []),
   (107, 1, .iload_n 2, 0, 0, 0, []),
   (108, 3, .invokevirtual 249, 200, 802, 0, []),
   (111, 1, .ireturn, 0, 0, 0, [])]]
def cd_201 : aCd := [
  [(0, 1, .iload_n 1, 0, 0, 0, []),
   (1, 43, .tableswitch 119 0 6 #[43, 119, 61, 119, 119, 79, 97], 120, 0, 0, [(0, 44), (1, 120), (2, 62), (3, 120), (4, 120), (5, 80), (6, 98)])],
  [],
  [(44, 1, .aload_n 0, 0, 0, 0, []),
   (45, 2, .bipush 11, 0, 0, 11, []),
   (47, 3, .invokevirtual 245, 196, 801, 0, [])],
  [(50, 1, .aload_n 0, 0, 0, 0, []),
   (51, 1, .aload_n 0, 0, 0, 0, []),
   (52, 3, .invokevirtual 252, 198, 800, 0, []),
   (55, 1, .iload_n 2, 0, 0, 0, []),
   (56, 3, .invokevirtual 249, 200, 802, 0, []),
   (59, 1, .iconst 2, 0, 0, 2, []),
   (60, 1, .imul, 0, 0, 0, []),
   (61, 1, .ireturn, 0, 0, 0, []),
   (62, 1, .aload_n 0, 0, 0, 0, []),
   (63, 2, .bipush 30, 0, 0, 30, [])],
  [(65, 3, .invokevirtual 245, 196, 801, 0, []),
   (68, 1, .iconst 0, 0, 0, 0, []),
   (69, 1, .aload_n 0, 0, 0, 0, []),
   (70, 1, .iconst 2, 0, 0, 2, []),
   (71, 3, .invokestatic 200, 197, 1, 0, []),
   (74, 1, .iload_n 2, 0, 0, 0, []),
   (75, 3, .invokevirtual 255, 201, 802, 0, []),
   (78, 1, .isub, 0, 0, 0, []),
   (79, 1, .ireturn, 0, 0, 0, [])],
  [(80, 1, .aload_n 0, 0, 0, 0, []),
   (81, 2, .bipush 60, 0, 0, 60, []),
   (83, 3, .invokevirtual 245, 196, 801, 0, []),
   (86, 1, .aload_n 0, 0, 0, 0, []),
   (87, 1, .iconst 5, 0, 0, 5, []),
   (88, 3, .invokestatic 200, 197, 1, 0, []),
   (91, 1, .iload_n 2, 0, 0, 0, []),
   (92, 1, .iconst 1, 0, 0, 1, []),
   (93, 1, .iadd, 0, 0, 0, []),
   (94, 3, .invokevirtual 255, 201, 802, 0, [])],
  [(97, 1, .ireturn, 0, 0, 0, []),
   (98, 1, .aload_n 0, 0, 0, 0, []),
   (99, 2, .bipush 71, 0, 0, 71, []),
   (101, 3, .invokevirtual 245, 196, 801, 0, []),
   (104, 1, .aload_n 0, 0, 0, 0, []),
   (105, 2, .bipush 6, 0, 0, 6, []),
   (107, 3, .invokestatic 200, 197, 1, 0, []),
   (110, 1, .iload_n 2, 0, 0, 0, []),
   (111, 3, .invokevirtual 255, 201, 802, 0, [])],
  [(114, 1, .aload_n 0, 0, 0, 0, []),
   (115, 3, .invokevirtual 258, 199, 800, 0, []),
   (118, 1, .iadd, 0, 0, 0, []),
   (119, 1, .ireturn, 0, 0, 0, []),
   (120, 1, .aload_n 0, 0, 0, 0, []),
   (121, 1, .iload_n 1, 0, 0, 0, []),
   (122, 3, .invokestatic 200, 197, 1, 0, []),
   (125, 1, .iload_n 2, 0, 0, 0, []),
   (126, 3, .invokevirtual 255, 201, 802, 0, [])],
  [(129, 1, .ireturn, 0, 0, 0, [])]]
def cd_202 : aCd := [
  [(0, 1, .iload_n 1, 0, 0, 0, []),
   (1, 35, .tableswitch 95 0 4 #[35, 95, 95, 56, 74], 96, 0, 0, [(0, 36), (1, 96), (2, 96), (3, 57), (4, 75)])],
  [],
  [(36, 1, .aload_n 0, 0, 0, 0, []),
   (37, 2, .bipush 12, 0, 0, 12, []),
   (39, 3, .invokevirtual 245, 196, 801, 0, []),
   (42, 1, .aload_n 0, 0, 0, 0, []),
   (43, 1, .aload_n 0, 0, 0, 0, []),
   (44, 3, .invokevirtual 252, 198, 800, 0, []),
   (47, 1, .iload_n 2, 0, 0, 0, [])],
  [(48, 3, .invokevirtual 255, 201, 802, 0, []),
   (51, 1, .aload_n 0, 0, 0, 0, []),
   (52, 3, .invokevirtual 258, 199, 800, 0, []),
   (55, 1, .isub, 0, 0, 0, []),
   (56, 1, .ireturn, 0, 0, 0, []),
   (57, 1, .aload_n 0, 0, 0, 0, []),
   (58, 2, .bipush 40, 0, 0, 40, []),
   (60, 3, .invokevirtual 245, 196, 801, 0, []),
   (63, 1, .aload_n 0, 0, 0, 0, [])],
  [(64, 1, .iconst 3, 0, 0, 3, []),
   (65, 3, .invokestatic 200, 197, 1, 0, []),
   (68, 1, .iload_n 2, 0, 0, 0, []),
   (69, 1, .iconst 2, 0, 0, 2, []),
   (70, 1, .idiv, 0, 0, 0, []),
   (71, 3, .invokevirtual 261, 202, 802, 0, []),
   (74, 1, .ireturn, 0, 0, 0, []),
   (75, 1, .aload_n 0, 0, 0, 0, []),
   (76, 2, .bipush 51, 0, 0, 51, []),
   (78, 3, .invokevirtual 245, 196, 801, 0, [])],
  [(81, 1, .aload_n 0, 0, 0, 0, []),
   (82, 1, .iconst 4, 0, 0, 4, []),
   (83, 3, .invokestatic 200, 197, 1, 0, []),
   (86, 1, .iload_n 2, 0, 0, 0, []),
   (87, 3, .invokevirtual 261, 202, 802, 0, []),
   (90, 1, .aload_n 0, 0, 0, 0, []),
   (91, 3, .getfield 242, 8, 16, 0, []),
   (94, 1, .ixor, 0, 0, 0, []),
   (95, 1, .ireturn, 0, 0, 0, [])],
  [(96, 1, .aload_n 0, 0, 0, 0, []),
   (97, 1, .iload_n 1, 0, 0, 0, []),
   (98, 3, .invokestatic 200, 197, 1, 0, []),
   (101, 1, .iload_n 2, 0, 0, 0, []),
   (102, 3, .invokevirtual 261, 202, 802, 0, []),
   (105, 1, .ireturn, 0, 0, 0, [])]]
def cd_203 : aCd := [
  [(0, 1, .iload_n 1, 0, 0, 0, []),
   (1, 27, .lookupswitch 119 #[(0, 27), (1, 78)], 120, 0, 0, [(0, 28), (1, 79)])],
  [(28, 1, .aload_n 0, 0, 0, 0, []),
   (29, 2, .bipush 13, 0, 0, 13, []),
   (31, 3, .invokevirtual 245, 196, 801, 0, [])],
  [(34, 1, .aload_n 0, 0, 0, 0, []),
   (35, 3, .invokevirtual 258, 199, 800, 0, []),
   (38, 1, .aload_n 0, 0, 0, 0, []),
   (39, 3, .getfield 242, 8, 16, 0, []),
   (42, 1, .isub, 0, 0, 0, []),
   (43, 1, .istore_n 3, 0, 0, 0, []),
   (44, 1, .aload_n 0, 0, 0, 0, []),
   (45, 1, .iload_n 3, 0, 0, 0, []),
   (46, 3, .ifCond .ne 7, 53, 0, 0, [])],
  [(49, 1, .iconst 1, 0, 0, 1, []),
   (50, 3, .goto 4, 54, 0, 0, []),
   (53, 1, .iconst 0, 0, 0, 0, []),
   (54, 3, .putfield 264, 8, 17, 0, []),
   (57, 1, .iload_n 3, 0, 0, 0, []),
   (58, 3, .ifCond .ne 7, 65, 0, 0, []),
   (61, 1, .iconst 0, 0, 0, 0, []),
   (62, 3, .goto 16, 78, 0, 0, [])],
  [(65, 1, .iload_n 3, 0, 0, 0, []),
   (66, 1, .iconst (-1), 0, 0, -1, []),
   (67, 3, .if_icmp .ne 8, 75, 0, 0, []),
   (70, 1, .iload_n 2, 0, 0, 0, []),
   (71, 1, .ineg, 0, 0, 0, []),
   (72, 3, .goto 6, 78, 0, 0, []),
   (75, 1, .iload_n 2, 0, 0, 0, []),
   (76, 1, .iload_n 3, 0, 0, 0, []),
   (77, 1, .idiv, 0, 0, 0, []),
   (78, 1, .ireturn, 0, 0, 0, []),
   (79, 1, .aload_n 0, 0, 0, 0, [])],
  [(80, 2, .bipush 21, 0, 0, 21, []),
   (82, 3, .invokevirtual 245, 196, 801, 0, []),
   (85, 1, .aload_n 0, 0, 0, 0, []),
   (86, 1, .iconst 1, 0, 0, 1, []),
   (87, 3, .invokestatic 200, 197, 1, 0, []),
   (90, 1, .iload_n 2, 0, 0, 0, []),
   (91, 3, .invokevirtual 268, 203, 802, 0, []),
   (94, 2, .istore 4, 0, 0, 0, [])],
  [(96, 1, .aload_n 0, 0, 0, 0, []),
   (97, 3, .getfield 264, 8, 17, 0, []),
   (100, 3, .ifCond .eq 7, 107, 0, 0, []),
   (103, 1, .iconst 0, 0, 0, 0, []),
   (104, 3, .goto 15, 119, 0, 0, []),
   (107, 2, .iload 4, 0, 0, 0, []),
   (109, 1, .aload_n 0, 0, 0, 0, []),
   (110, 1, .aload_n 0, 0, 0, 0, []),
   (111, 3, .invokevirtual 252, 198, 800, 0, [])],
  [(114, 1, .iconst 1, 0, 0, 1, []),
   (115, 3, .invokevirtual 255, 201, 802, 0, []),
   (118, 1, .iadd, 0, 0, 0, []),
   (119, 1, .ireturn, 0, 0, 0, []),
   (120, 1, .aload_n 0, 0, 0, 0, []),
   (121, 1, .iload_n 1, 0, 0, 0, []),
   (122, 3, .invokestatic 200, 197, 1, 0, []),
   (125, 1, .iload_n 2, 0, 0, 0, []),
   (126, 3, .invokevirtual 268, 203, 802, 0, [])],
  [(129, 1, .ireturn, 0, 0, 0, [])]]
def cd_204 : aCd := [
  [(0, 1, .aload_n 0, 0, 0, 0, []),
   (1, 1, .iload_n 1, 0, 0, 0, []),
   (2, 3, .invokevirtual 191, 122, 801, 0, []),
   (5, 3, .ifCond .eq 12, 17, 0, 0, []),
   (8, 1, .iload_n 2, 0, 0, 0, []),
   (9, 1, .iconst 0, 0, 0, 0, []),
   (10, 1, .iconst 3, 0, 0, 3, []),
   (11, 3, .invokestatic 53, 117, 3, 0, []),
   (14, 3, .ifCond .ne 9, 23, 0, 0, [])],
  [(17, 1, .aload_n 0, 0, 0, 0, []),
   (18, 1, .iconst 1, 0, 0, 1, []),
   (19, 3, .invokevirtual 65, 116, 801, 0, []),
   (22, 1, .ireturn, 0, 0, 0, []),
   (23, 1, .aload_n 0, 0, 0, 0, []),
   (24, 1, .iconst 0, 0, 0, 0, []),
   (25, 3, .putfield 239, 8, 14, 0, []),
   (28, 1, .aload_n 0, 0, 0, 0, []),
   (29, 1, .iload_n 1, 0, 0, 0, []),
   (30, 3, .putfield 242, 8, 16, 0, [])],
  [(33, 1, .aload_n 0, 0, 0, 0, []),
   (34, 1, .iconst 0, 0, 0, 0, []),
   (35, 3, .putfield 264, 8, 17, 0, []),
   (38, 1, .aload_n 0, 0, 0, 0, []),
   (39, 3, .invokevirtual 252, 198, 800, 0, []),
   (42, 2, .istore 4, 0, 0, 0, []),
   (44, 1, .iload_n 2, 0, 0, 0, []),
   (45, 3, .ifCond .ne 13, 58, 0, 0, [])],
  [(48, 1, .aload_n 0, 0, 0, 0, []),
   (49, 2, .iload 4, 0, 0, 0, []),
   (51, 1, .iload_n 3, 0, 0, 0, []),
   (52, 3, .invokevirtual 249, 200, 802, 0, []),
   (55, 3, .goto 40, 95, 0, 0, []),
   (58, 1, .iload_n 2, 0, 0, 0, []),
   (59, 1, .iconst 1, 0, 0, 1, []),
   (60, 3, .if_icmp .ne 13, 73, 0, 0, []),
   (63, 1, .aload_n 0, 0, 0, 0, [])],
  [(64, 2, .iload 4, 0, 0, 0, []),
   (66, 1, .iload_n 3, 0, 0, 0, []),
   (67, 3, .invokevirtual 255, 201, 802, 0, []),
   (70, 3, .goto 25, 95, 0, 0, []),
   (73, 1, .iload_n 2, 0, 0, 0, []),
   (74, 1, .iconst 2, 0, 0, 2, []),
   (75, 3, .if_icmp .ne 13, 88, 0, 0, []),
   (78, 1, .aload_n 0, 0, 0, 0, []),
   (79, 2, .iload 4, 0, 0, 0, [])],
  [(81, 1, .iload_n 3, 0, 0, 0, []),
   (82, 3, .invokevirtual 261, 202, 802, 0, []),
   (85, 3, .goto 10, 95, 0, 0, []),
   (88, 1, .aload_n 0, 0, 0, 0, []),
   (89, 2, .iload 4, 0, 0, 0, []),
   (91, 1, .iload_n 3, 0, 0, 0, []),
   (92, 3, .invokevirtual 268, 203, 802, 0, []),
   (95, 2, .istore 5, 0, 0, 0, [])],
  [(97, 1, .aload_n 0, 0, 0, 0, []),
   (98, 3, .getfield 264, 8, 17, 0, []),
   (101, 3, .ifCond .eq 12, 113, 0, 0, []),
   (104, 1, .aload_n 0, 0, 0, 0, []),
   (105, 2, .bipush 6, 0, 0, 6, []),
   (107, 3, .invokevirtual 65, 116, 801, 0, []),
   (110, 3, .goto 5, 115, 0, 0, [])],
  [(113, 2, .iload 5, 0, 0, 0, []),
   (115, 1, .ireturn, 0, 0, 0, [])]]
def cd_205 : aCd := [
  [(0, 1, .iload_n 1, 0, 0, 0, []),
   (1, 1, .iconst 0, 0, 0, 0, []),
   (2, 1, .aload_n 0, 0, 0, 0, []),
   (3, 3, .getfield 239, 8, 14, 0, []),
   (6, 1, .iconst 1, 0, 0, 1, []),
   (7, 1, .isub, 0, 0, 0, []),
   (8, 3, .invokestatic 53, 117, 3, 0, []),
   (11, 3, .ifCond .eq 12, 23, 0, 0, []),
   (14, 1, .aload_n 0, 0, 0, 0, []),
   (15, 3, .getfield 37, 8, 15, 0, [])],
  [(18, 1, .iload_n 1, 0, 0, 0, []),
   (19, 1, .iaload, 0, 0, 0, []),
   (20, 3, .goto 8, 28, 0, 0, []),
   (23, 1, .aload_n 0, 0, 0, 0, []),
   (24, 1, .iconst 2, 0, 0, 2, []),
   (25, 3, .invokevirtual 65, 116, 801, 0, []),
   (28, 1, .ireturn, 0, 0, 0, [])]]
def cd_206 : aCd := [
  [(0, 1, .iload_n 0, 0, 0, 0, []),
   (1, 1, .iconst 0, 0, 0, 0, []),
   (2, 1, .iconst 3, 0, 0, 3, []),
   (3, 3, .invokestatic 53, 117, 3, 0, []),
   (6, 1, .ireturn, 0, 0, 0, [])]]
def cd_207 : aCd := [
  [(0, 1, .iload_n 1, 0, 0, 0, []),
   (1, 3, .invokestatic 271, 206, 1, 0, []),
   (4, 3, .ifCond .eq 25, 29, 0, 0, []),
   (7, 1, .iload_n 2, 0, 0, 0, []),
   (8, 3, .ifCond .eq 27, 35, 0, 0, []),
   (11, 1, .iload_n 2, 0, 0, 0, []),
   (12, 2, .bipush 8, 0, 0, 8, []),
   (14, 3, .if_icmp .eq 21, 35, 0, 0, [])],
  [(17, 1, .iload_n 2, 0, 0, 0, []),
   (18, 2, .bipush 16, 0, 0, 16, []),
   (20, 3, .if_icmp .eq 15, 35, 0, 0, []),
   (23, 1, .iload_n 2, 0, 0, 0, []),
   (24, 2, .bipush 32, 0, 0, 32, []),
   (26, 3, .if_icmp .eq 9, 35, 0, 0, []),
   (29, 1, .aload_n 0, 0, 0, 0, []),
   (30, 1, .iconst 1, 0, 0, 1, []),
   (31, 3, .invokevirtual 65, 116, 801, 0, [])],
  [(34, 1, .ireturn, 0, 0, 0, []),
   (35, 1, .iload_n 2, 0, 0, 0, []),
   (36, 3, .ifCond .eq 13, 49, 0, 0, []),
   (39, 1, .iload_n 3, 0, 0, 0, []),
   (40, 3, .ifCond .ge 9, 49, 0, 0, []),
   (43, 1, .aload_n 0, 0, 0, 0, []),
   (44, 1, .iconst 3, 0, 0, 3, []),
   (45, 3, .invokevirtual 65, 116, 801, 0, [])],
  [(48, 1, .ireturn, 0, 0, 0, []),
   (49, 1, .iload_n 2, 0, 0, 0, []),
   (50, 3, .ifCond .eq 15, 65, 0, 0, []),
   (53, 1, .iload_n 3, 0, 0, 0, []),
   (54, 2, .bipush 24, 0, 0, 24, []),
   (56, 3, .if_icmp .le 9, 65, 0, 0, []),
   (59, 1, .aload_n 0, 0, 0, 0, []),
   (60, 1, .iconst 1, 0, 0, 1, []),
   (61, 3, .invokevirtual 65, 116, 801, 0, [])],
  [(64, 1, .ireturn, 0, 0, 0, []),
   (65, 1, .aload_n 0, 0, 0, 0, []),
   (66, 3, .getfield 40, 8, 18, 0, []),
   (69, 1, .iload_n 1, 0, 0, 0, []),
   (70, 1, .iload_n 2, 0, 0, 0, []),
   (71, 1, .iastore, 0, 0, 0, []),
   (72, 1, .aload_n 0, 0, 0, 0, []),
   (73, 3, .getfield 43, 8, 19, 0, []),
   (76, 1, .iload_n 1, 0, 0, 0, []),
   (77, 1, .iload_n 2, 0, 0, 0, []),
   (78, 3, .ifCond .ne 7, 85, 0, 0, [])],
  [(81, 1, .iconst 0, 0, 0, 0, []),
   (82, 3, .goto 4, 86, 0, 0, []),
   (85, 1, .iload_n 3, 0, 0, 0, []),
   (86, 1, .iastore, 0, 0, 0, []),
   (87, 1, .iconst 0, 0, 0, 0, []),
   (88, 2, .istore 4, 0, 0, 0, []),
   (90, 2, .iload 4, 0, 0, 0, []),
   (92, 2, .bipush 24, 0, 0, 24, []),
   (94, 3, .if_icmp .ge 22, 116, 0, 0, [])],
  [(97, 1, .aload_n 0, 0, 0, 0, []),
   (98, 3, .getfield 46, 8, 20, 0, []),
   (101, 2, .bipush 24, 0, 0, 24, []),
   (103, 1, .iload_n 1, 0, 0, 0, []),
   (104, 1, .imul, 0, 0, 0, []),
   (105, 2, .iload 4, 0, 0, 0, []),
   (107, 1, .iadd, 0, 0, 0, []),
   (108, 1, .iconst 0, 0, 0, 0, []),
   (109, 1, .iastore, 0, 0, 0, []),
   (110, 3, .iinc 4 1, 0, 0, 1, [])],
  [(113, 3, .goto (-23), 90, 0, 0, []),
   (116, 1, .iconst 1, 0, 0, 1, []),
   (117, 1, .ireturn, 0, 0, 0, [])]]
def cd_208 : aCd := [
  [(0, 1, .iload_n 1, 0, 0, 0, []),
   (1, 3, .invokestatic 271, 206, 1, 0, []),
   (4, 3, .ifCond .ne 9, 13, 0, 0, []),
   (7, 1, .aload_n 0, 0, 0, 0, []),
   (8, 1, .iconst 1, 0, 0, 1, []),
   (9, 3, .invokevirtual 65, 116, 801, 0, []),
   (12, 1, .ireturn, 0, 0, 0, []),
   (13, 1, .aload_n 0, 0, 0, 0, []),
   (14, 3, .getfield 40, 8, 18, 0, [])],
  [(17, 1, .iload_n 1, 0, 0, 0, []),
   (18, 1, .iaload, 0, 0, 0, []),
   (19, 3, .ifCond .ne 9, 28, 0, 0, []),
   (22, 1, .aload_n 0, 0, 0, 0, []),
   (23, 1, .iconst 2, 0, 0, 2, []),
   (24, 3, .invokevirtual 65, 116, 801, 0, []),
   (27, 1, .ireturn, 0, 0, 0, []),
   (28, 1, .iload_n 2, 0, 0, 0, []),
   (29, 1, .iconst 0, 0, 0, 0, []),
   (30, 1, .aload_n 0, 0, 0, 0, []),
   (31, 3, .getfield 43, 8, 19, 0, [])],
  [(34, 1, .iload_n 1, 0, 0, 0, []),
   (35, 1, .iaload, 0, 0, 0, []),
   (36, 1, .iconst 1, 0, 0, 1, []),
   (37, 1, .isub, 0, 0, 0, []),
   (38, 3, .invokestatic 53, 117, 3, 0, []),
   (41, 3, .ifCond .ne 9, 50, 0, 0, []),
   (44, 1, .aload_n 0, 0, 0, 0, []),
   (45, 1, .iconst 1, 0, 0, 1, []),
   (46, 3, .invokevirtual 65, 116, 801, 0, [])],
  [(49, 1, .ireturn, 0, 0, 0, []),
   (50, 2, .bipush 32, 0, 0, 32, []),
   (52, 1, .aload_n 0, 0, 0, 0, []),
   (53, 3, .getfield 40, 8, 18, 0, []),
   (56, 1, .iload_n 1, 0, 0, 0, []),
   (57, 1, .iaload, 0, 0, 0, []),
   (58, 1, .isub, 0, 0, 0, []),
   (59, 2, .istore 4, 0, 0, 0, []),
   (61, 1, .aload_n 0, 0, 0, 0, []),
   (62, 3, .getfield 46, 8, 20, 0, [])],
  [(65, 2, .bipush 24, 0, 0, 24, []),
   (67, 1, .iload_n 1, 0, 0, 0, []),
   (68, 1, .imul, 0, 0, 0, []),
   (69, 1, .iload_n 2, 0, 0, 0, []),
   (70, 1, .iadd, 0, 0, 0, []),
   (71, 1, .iload_n 3, 0, 0, 0, []),
   (72, 2, .iload 4, 0, 0, 0, []),
   (74, 1, .ishl, 0, 0, 0, []),
   (75, 2, .iload 4, 0, 0, 0, []),
   (77, 1, .ishr, 0, 0, 0, []),
   (78, 1, .iastore, 0, 0, 0, []),
   (79, 1, .iconst 1, 0, 0, 1, [])],
  [(80, 1, .ireturn, 0, 0, 0, [])]]
def cd_209 : aCd := [
  [(0, 1, .iload_n 1, 0, 0, 0, []),
   (1, 3, .invokestatic 271, 206, 1, 0, []),
   (4, 3, .ifCond .eq 10, 14, 0, 0, []),
   (7, 1, .iload_n 3, 0, 0, 0, []),
   (8, 3, .invokestatic 271, 206, 1, 0, []),
   (11, 3, .ifCond .ne 9, 20, 0, 0, []),
   (14, 1, .aload_n 0, 0, 0, 0, []),
   (15, 1, .iconst 1, 0, 0, 1, [])],
  [(16, 3, .invokevirtual 65, 116, 801, 0, []),
   (19, 1, .ireturn, 0, 0, 0, []),
   (20, 1, .aload_n 0, 0, 0, 0, []),
   (21, 3, .getfield 40, 8, 18, 0, []),
   (24, 1, .iload_n 1, 0, 0, 0, []),
   (25, 1, .iaload, 0, 0, 0, []),
   (26, 3, .ifCond .eq 12, 38, 0, 0, []),
   (29, 1, .aload_n 0, 0, 0, 0, []),
   (30, 3, .getfield 40, 8, 18, 0, [])],
  [(33, 1, .iload_n 3, 0, 0, 0, []),
   (34, 1, .iaload, 0, 0, 0, []),
   (35, 3, .ifCond .ne 9, 44, 0, 0, []),
   (38, 1, .aload_n 0, 0, 0, 0, []),
   (39, 1, .iconst 2, 0, 0, 2, []),
   (40, 3, .invokevirtual 65, 116, 801, 0, []),
   (43, 1, .ireturn, 0, 0, 0, []),
   (44, 1, .aload_n 0, 0, 0, 0, []),
   (45, 3, .getfield 40, 8, 18, 0, [])],
  [(48, 1, .iload_n 1, 0, 0, 0, []),
   (49, 1, .iaload, 0, 0, 0, []),
   (50, 1, .aload_n 0, 0, 0, 0, []),
   (51, 3, .getfield 40, 8, 18, 0, []),
   (54, 1, .iload_n 3, 0, 0, 0, []),
   (55, 1, .iaload, 0, 0, 0, []),
   (56, 3, .if_icmp .eq 9, 65, 0, 0, []),
   (59, 1, .aload_n 0, 0, 0, 0, []),
   (60, 1, .iconst 5, 0, 0, 5, []),
   (61, 3, .invokevirtual 65, 116, 801, 0, [])],
  [(64, 1, .ireturn, 0, 0, 0, []),
   (65, 2, .iload 5, 0, 0, 0, []),
   (67, 3, .ifCond .lt 39, 106, 0, 0, []),
   (70, 1, .iload_n 2, 0, 0, 0, []),
   (71, 3, .ifCond .lt 35, 106, 0, 0, []),
   (74, 2, .iload 4, 0, 0, 0, []),
   (76, 3, .ifCond .lt 30, 106, 0, 0, []),
   (79, 1, .iload_n 2, 0, 0, 0, [])],
  [(80, 1, .aload_n 0, 0, 0, 0, []),
   (81, 3, .getfield 43, 8, 19, 0, []),
   (84, 1, .iload_n 1, 0, 0, 0, []),
   (85, 1, .iaload, 0, 0, 0, []),
   (86, 2, .iload 5, 0, 0, 0, []),
   (88, 1, .isub, 0, 0, 0, []),
   (89, 3, .if_icmp .gt 17, 106, 0, 0, []),
   (92, 2, .iload 4, 0, 0, 0, []),
   (94, 1, .aload_n 0, 0, 0, 0, []),
   (95, 3, .getfield 43, 8, 19, 0, [])],
  [(98, 1, .iload_n 3, 0, 0, 0, []),
   (99, 1, .iaload, 0, 0, 0, []),
   (100, 2, .iload 5, 0, 0, 0, []),
   (102, 1, .isub, 0, 0, 0, []),
   (103, 3, .if_icmp .le 9, 112, 0, 0, []),
   (106, 1, .aload_n 0, 0, 0, 0, []),
   (107, 1, .iconst 1, 0, 0, 1, []),
   (108, 3, .invokevirtual 65, 116, 801, 0, []),
   (111, 1, .ireturn, 0, 0, 0, [])],
  [(112, 1, .iconst 0, 0, 0, 0, []),
   (113, 2, .istore 6, 0, 0, 0, []),
   (115, 2, .iload 6, 0, 0, 0, []),
   (117, 2, .iload 5, 0, 0, 0, []),
   (119, 3, .if_icmp .ge 30, 149, 0, 0, []),
   (122, 1, .aload_n 0, 0, 0, 0, []),
   (123, 3, .getfield 49, 8, 21, 0, []),
   (126, 2, .iload 6, 0, 0, 0, [])],
  [(128, 1, .aload_n 0, 0, 0, 0, []),
   (129, 3, .getfield 46, 8, 20, 0, []),
   (132, 2, .bipush 24, 0, 0, 24, []),
   (134, 1, .iload_n 1, 0, 0, 0, []),
   (135, 1, .imul, 0, 0, 0, []),
   (136, 1, .iload_n 2, 0, 0, 0, []),
   (137, 1, .iadd, 0, 0, 0, []),
   (138, 2, .iload 6, 0, 0, 0, []),
   (140, 1, .iadd, 0, 0, 0, []),
   (141, 1, .iaload, 0, 0, 0, []),
   (142, 1, .iastore, 0, 0, 0, []),
   (143, 3, .iinc 6 1, 0, 0, 1, [])],
  [(146, 3, .goto (-31), 115, 0, 0, []),
   (149, 1, .iconst 0, 0, 0, 0, []),
   (150, 2, .istore 6, 0, 0, 0, []),
   (152, 2, .iload 6, 0, 0, 0, []),
   (154, 2, .iload 5, 0, 0, 0, []),
   (156, 3, .if_icmp .ge 31, 187, 0, 0, []),
   (159, 1, .aload_n 0, 0, 0, 0, [])],
  [(160, 3, .getfield 46, 8, 20, 0, []),
   (163, 2, .bipush 24, 0, 0, 24, []),
   (165, 1, .iload_n 3, 0, 0, 0, []),
   (166, 1, .imul, 0, 0, 0, []),
   (167, 2, .iload 4, 0, 0, 0, []),
   (169, 1, .iadd, 0, 0, 0, []),
   (170, 2, .iload 6, 0, 0, 0, []),
   (172, 1, .iadd, 0, 0, 0, []),
   (173, 1, .aload_n 0, 0, 0, 0, []),
   (174, 3, .getfield 49, 8, 21, 0, [])],
  [(177, 2, .iload 6, 0, 0, 0, []),
   (179, 1, .iaload, 0, 0, 0, []),
   (180, 1, .iastore, 0, 0, 0, []),
   (181, 3, .iinc 6 1, 0, 0, 1, []),
   (184, 3, .goto (-32), 152, 0, 0, []),
   (187, 2, .iload 5, 0, 0, 0, []),
   (189, 1, .ireturn, 0, 0, 0, [])]]
def cd_210 : aCd := [
  [(0, 1, .iload_n 1, 0, 0, 0, []),
   (1, 3, .invokestatic 271, 206, 1, 0, []),
   (4, 3, .ifCond .ne 7, 11, 0, 0, []),
   (7, 1, .iconst 1, 0, 0, 1, []),
   (8, 3, .goto 17, 25, 0, 0, []),
   (11, 1, .aload_n 0, 0, 0, 0, []),
   (12, 3, .getfield 40, 8, 18, 0, []),
   (15, 1, .iload_n 1, 0, 0, 0, [])],
  [(16, 1, .iaload, 0, 0, 0, []),
   (17, 3, .ifCond .ne 7, 24, 0, 0, []),
   (20, 1, .iconst 2, 0, 0, 2, []),
   (21, 3, .goto 4, 25, 0, 0, []),
   (24, 1, .iconst 0, 0, 0, 0, []),
   (25, 1, .ireturn, 0, 0, 0, [])]]
def cd_211 : aCd := [
  [(0, 1, .aload_n 0, 0, 0, 0, []),
   (1, 1, .iload_n 1, 0, 0, 0, []),
   (2, 3, .invokevirtual 230, 210, 801, 0, []),
   (5, 1, .istore_n 2, 0, 0, 0, []),
   (6, 1, .iload_n 2, 0, 0, 0, []),
   (7, 3, .ifCond .eq 9, 16, 0, 0, []),
   (10, 1, .aload_n 0, 0, 0, 0, []),
   (11, 1, .iload_n 2, 0, 0, 0, []),
   (12, 3, .invokevirtual 65, 116, 801, 0, []),
   (15, 1, .ireturn, 0, 0, 0, [])],
  [(16, 1, .iconst 0, 0, 0, 0, []),
   (17, 1, .istore_n 3, 0, 0, 0, []),
   (18, 1, .iload_n 3, 0, 0, 0, []),
   (19, 1, .aload_n 0, 0, 0, 0, []),
   (20, 3, .getfield 43, 8, 19, 0, []),
   (23, 1, .iload_n 1, 0, 0, 0, []),
   (24, 1, .iaload, 0, 0, 0, []),
   (25, 3, .if_icmp .ge 53, 78, 0, 0, []),
   (28, 1, .aload_n 0, 0, 0, 0, []),
   (29, 1, .iload_n 3, 0, 0, 0, []),
   (30, 3, .invokevirtual 203, 123, 801, 0, [])],
  [(33, 3, .ifCond .eq 45, 78, 0, 0, []),
   (36, 1, .aload_n 0, 0, 0, 0, []),
   (37, 3, .getfield 46, 8, 20, 0, []),
   (40, 2, .bipush 24, 0, 0, 24, []),
   (42, 1, .iload_n 1, 0, 0, 0, []),
   (43, 1, .imul, 0, 0, 0, []),
   (44, 1, .iload_n 3, 0, 0, 0, []),
   (45, 1, .iadd, 0, 0, 0, []),
   (46, 1, .iaload, 0, 0, 0, []),
   (47, 1, .iconst 0, 0, 0, 0, [])],
  [(48, 1, .iconst 2, 0, 0, 2, []),
   (49, 3, .invokestatic 53, 117, 3, 0, []),
   (52, 3, .ifCond .eq 26, 78, 0, 0, []),
   (55, 1, .aload_n 0, 0, 0, 0, []),
   (56, 1, .iload_n 3, 0, 0, 0, []),
   (57, 1, .iconst 1, 0, 0, 1, []),
   (58, 1, .aload_n 0, 0, 0, 0, []),
   (59, 3, .getfield 46, 8, 20, 0, []),
   (62, 2, .bipush 24, 0, 0, 24, [])],
  [(64, 1, .iload_n 1, 0, 0, 0, []),
   (65, 1, .imul, 0, 0, 0, []),
   (66, 1, .iload_n 3, 0, 0, 0, []),
   (67, 1, .iadd, 0, 0, 0, []),
   (68, 1, .iaload, 0, 0, 0, []),
   (69, 3, .invokevirtual 168, 127, 803, 0, []),
   (72, 3, .iinc 3 1, 0, 0, 1, []),
   (75, 3, .goto (-57), 18, 0, 0, []),
   (78, 1, .iload_n 3, 0, 0, 0, []),
   (79, 1, .ireturn, 0, 0, 0, [])]]
def cd_212 : aCd := [
  [(0, 1, .aload_n 0, 0, 0, 0, []),
   (1, 1, .iload_n 1, 0, 0, 0, []),
   (2, 3, .invokevirtual 230, 210, 801, 0, []),
   (5, 1, .istore_n 2, 0, 0, 0, []),
   (6, 1, .iload_n 2, 0, 0, 0, []),
   (7, 3, .ifCond .eq 9, 16, 0, 0, []),
   (10, 1, .aload_n 0, 0, 0, 0, []),
   (11, 1, .iload_n 2, 0, 0, 0, []),
   (12, 3, .invokevirtual 65, 116, 801, 0, []),
   (15, 1, .ireturn, 0, 0, 0, [])],
  [(16, 1, .aload_n 0, 0, 0, 0, []),
   (17, 3, .invokevirtual 233, 120, 800, 0, []),
   (20, 1, .iconst 0, 0, 0, 0, []),
   (21, 1, .istore_n 3, 0, 0, 0, []),
   (22, 1, .iconst 1, 0, 0, 1, []),
   (23, 2, .istore 4, 0, 0, 0, []),
   (25, 1, .iconst 0, 0, 0, 0, []),
   (26, 2, .istore 5, 0, 0, 0, []),
   (28, 2, .iload 5, 0, 0, 0, []),
   (30, 1, .aload_n 0, 0, 0, 0, []),
   (31, 3, .getfield 43, 8, 19, 0, [])],
  [(34, 1, .iload_n 1, 0, 0, 0, []),
   (35, 1, .iaload, 0, 0, 0, []),
   (36, 3, .if_icmp .ge 53, 89, 0, 0, []),
   (39, 2, .iload 4, 0, 0, 0, []),
   (41, 3, .ifCond .eq 48, 89, 0, 0, []),
   (44, 1, .aload_n 0, 0, 0, 0, []),
   (45, 3, .invokevirtual 212, 162, 800, 0, [])],
  [(48, 1, .aload_n 0, 0, 0, 0, []),
   (49, 3, .getfield 46, 8, 20, 0, []),
   (52, 2, .bipush 24, 0, 0, 24, []),
   (54, 1, .iload_n 1, 0, 0, 0, []),
   (55, 1, .imul, 0, 0, 0, []),
   (56, 2, .iload 5, 0, 0, 0, []),
   (58, 1, .iadd, 0, 0, 0, []),
   (59, 1, .iaload, 0, 0, 0, []),
   (60, 3, .if_icmp .ne 7, 67, 0, 0, []),
   (63, 1, .iconst 1, 0, 0, 1, [])],
  [(64, 3, .goto 4, 68, 0, 0, []),
   (67, 1, .iconst 0, 0, 0, 0, []),
   (68, 2, .istore 4, 0, 0, 0, []),
   (70, 1, .iload_n 3, 0, 0, 0, []),
   (71, 2, .iload 4, 0, 0, 0, []),
   (73, 3, .ifCond .eq 7, 80, 0, 0, []),
   (76, 1, .iconst 1, 0, 0, 1, []),
   (77, 3, .goto 4, 81, 0, 0, [])],
  [(80, 1, .iconst 0, 0, 0, 0, []),
   (81, 1, .iadd, 0, 0, 0, []),
   (82, 1, .istore_n 3, 0, 0, 0, []),
   (83, 3, .iinc 5 1, 0, 0, 1, []),
   (86, 3, .goto (-58), 28, 0, 0, []),
   (89, 1, .aload_n 0, 0, 0, 0, []),
   (90, 3, .invokevirtual 236, 121, 800, 0, []),
   (93, 1, .iload_n 3, 0, 0, 0, []),
   (94, 1, .ireturn, 0, 0, 0, [])]]
def cd_213 : aCd := [
  [(0, 1, .aload_n 0, 0, 0, 0, []),
   (1, 3, .getfield 7, 8, 0, 0, []),
   (4, 1, .aload_n 0, 0, 0, 0, []),
   (5, 3, .getfield 13, 8, 1, 0, []),
   (8, 3, .invokestatic 274, 119, 2, 0, []),
   (11, 1, .aload_n 0, 0, 0, 0, []),
   (12, 1, .dup, 0, 0, 0, []),
   (13, 3, .getfield 278, 8, 3, 0, [])],
  [(16, 1, .iconst 1, 0, 0, 1, []),
   (17, 1, .iadd, 0, 0, 0, []),
   (18, 3, .putfield 278, 8, 3, 0, []),
   (21, 1, .aload_n 0, 0, 0, 0, []),
   (22, 3, .getfield 278, 8, 3, 0, []),
   (25, 1, .ireturn, 0, 0, 0, [])]]
def cd_214 : aCd := [
  [(0, 1, .aload_n 0, 0, 0, 0, []),
   (1, 3, .getfield 278, 8, 3, 0, []),
   (4, 3, .ifCond .ne 9, 13, 0, 0, []),
   (7, 1, .aload_n 0, 0, 0, 0, []),
   (8, 1, .iconst 2, 0, 0, 2, []),
   (9, 3, .invokevirtual 65, 116, 801, 0, []),
   (12, 1, .ireturn, 0, 0, 0, []),
   (13, 1, .aload_n 0, 0, 0, 0, []),
   (14, 3, .getfield 13, 8, 1, 0, [])],
  [(17, 1, .aload_n 0, 0, 0, 0, []),
   (18, 3, .getfield 7, 8, 0, 0, []),
   (21, 3, .invokestatic 274, 119, 2, 0, []),
   (24, 1, .aload_n 0, 0, 0, 0, []),
   (25, 3, .getfield 7, 8, 0, 0, []),
   (28, 1, .iconst 0, 0, 0, 0, []),
   (29, 1, .iaload, 0, 0, 0, []),
   (30, 1, .ireturn, 0, 0, 0, [])]]
def cd_215 : aCd := [
  [(0, 1, .aload_n 0, 0, 0, 0, []),
   (1, 3, .getfield 7, 8, 0, 0, []),
   (4, 2, .bipush 6, 0, 0, 6, []),
   (6, 1, .iaload, 0, 0, 0, []),
   (7, 2, .bipush 24, 0, 0, 24, []),
   (9, 3, .if_icmp .ne 9, 18, 0, 0, []),
   (12, 1, .aload_n 0, 0, 0, 0, []),
   (13, 1, .iconst 4, 0, 0, 4, []),
   (14, 3, .invokevirtual 65, 116, 801, 0, [])],
  [(17, 1, .ireturn, 0, 0, 0, []),
   (18, 1, .aload_n 0, 0, 0, 0, []),
   (19, 3, .getfield 7, 8, 0, 0, []),
   (22, 3, .sipush 430, 0, 0, 430, []),
   (25, 1, .aload_n 0, 0, 0, 0, []),
   (26, 3, .getfield 7, 8, 0, 0, []),
   (29, 2, .bipush 6, 0, 0, 6, []),
   (31, 1, .iaload, 0, 0, 0, [])],
  [(32, 1, .iadd, 0, 0, 0, []),
   (33, 1, .iload_n 1, 0, 0, 0, []),
   (34, 1, .iastore, 0, 0, 0, []),
   (35, 1, .aload_n 0, 0, 0, 0, []),
   (36, 3, .getfield 7, 8, 0, 0, []),
   (39, 2, .bipush 6, 0, 0, 6, []),
   (41, 1, .dup2, 0, 0, 0, []),
   (42, 1, .iaload, 0, 0, 0, []),
   (43, 1, .iconst 1, 0, 0, 1, []),
   (44, 1, .iadd, 0, 0, 0, []),
   (45, 1, .iastore, 0, 0, 0, []),
   (46, 1, .aload_n 0, 0, 0, 0, []),
   (47, 3, .getfield 7, 8, 0, 0, [])],
  [(50, 2, .bipush 6, 0, 0, 6, []),
   (52, 1, .iaload, 0, 0, 0, []),
   (53, 1, .ireturn, 0, 0, 0, [])]]
def cd_216 : aCd := [
  [(0, 1, .aload_n 0, 0, 0, 0, []),
   (1, 3, .getfield 7, 8, 0, 0, []),
   (4, 2, .bipush 6, 0, 0, 6, []),
   (6, 1, .iaload, 0, 0, 0, []),
   (7, 1, .istore_n 1, 0, 0, 0, []),
   (8, 1, .aload_n 0, 0, 0, 0, []),
   (9, 3, .getfield 7, 8, 0, 0, []),
   (12, 2, .bipush 6, 0, 0, 6, []),
   (14, 1, .iconst 0, 0, 0, 0, []),
   (15, 1, .iastore, 0, 0, 0, [])],
  [(16, 1, .iconst 0, 0, 0, 0, []),
   (17, 1, .istore_n 2, 0, 0, 0, []),
   (18, 1, .iload_n 2, 0, 0, 0, []),
   (19, 1, .iload_n 1, 0, 0, 0, []),
   (20, 3, .if_icmp .ge 40, 60, 0, 0, []),
   (23, 1, .aload_n 0, 0, 0, 0, []),
   (24, 1, .iload_n 2, 0, 0, 0, []),
   (25, 3, .invokevirtual 191, 122, 801, 0, []),
   (28, 3, .ifCond .eq 22, 50, 0, 0, []),
   (31, 1, .aload_n 0, 0, 0, 0, [])],
  [(32, 3, .getfield 7, 8, 0, 0, []),
   (35, 3, .sipush 430, 0, 0, 430, []),
   (38, 1, .iload_n 2, 0, 0, 0, []),
   (39, 1, .iadd, 0, 0, 0, []),
   (40, 1, .iaload, 0, 0, 0, []),
   (41, 1, .aload_n 0, 0, 0, 0, []),
   (42, 1, .iload_n 2, 0, 0, 0, []),
   (43, 1, .iconst 2, 0, 0, 2, []),
   (44, 3, .invokevirtual 136, 124, 802, 0, []),
   (47, 3, .if_icmp .eq 7, 54, 0, 0, [])],
  [(50, 1, .iconst 1, 0, 0, 1, []),
   (51, 1, .iload_n 2, 0, 0, 0, []),
   (52, 1, .iadd, 0, 0, 0, []),
   (53, 1, .ireturn, 0, 0, 0, []),
   (54, 3, .iinc 2 1, 0, 0, 1, []),
   (57, 3, .goto (-39), 18, 0, 0, []),
   (60, 1, .iconst 0, 0, 0, 0, []),
   (61, 1, .ireturn, 0, 0, 0, [])]]
def cd_217 : aCd := [
  [(0, 1, .iload_n 1, 0, 0, 0, []),
   (1, 59, .tableswitch 135 0 10 #[59, 67, 75, 80, 87, 94, 101, 108, 115, 123, 128], 136, 0, 0, [(0, 60), (1, 68), (2, 76), (3, 81), (4, 88), (5, 95), (6, 102), (7, 109), (8, 116), (9, 124), (10, 129)])],
  [],
  [],
  [(60, 1, .aload_n 0, 0, 0, 0, []),
   (61, 3, .getfield 7, 8, 0, 0, [])],
  [(64, 2, .bipush 7, 0, 0, 7, []),
   (66, 1, .iaload, 0, 0, 0, []),
   (67, 1, .ireturn, 0, 0, 0, []),
   (68, 1, .aload_n 0, 0, 0, 0, []),
   (69, 3, .getfield 7, 8, 0, 0, []),
   (72, 2, .bipush 8, 0, 0, 8, []),
   (74, 1, .iaload, 0, 0, 0, []),
   (75, 1, .ireturn, 0, 0, 0, []),
   (76, 1, .aload_n 0, 0, 0, 0, []),
   (77, 3, .invokevirtual 209, 130, 800, 0, [])],
  [(80, 1, .ireturn, 0, 0, 0, []),
   (81, 1, .aload_n 0, 0, 0, 0, []),
   (82, 3, .getfield 7, 8, 0, 0, []),
   (85, 1, .iconst 0, 0, 0, 0, []),
   (86, 1, .iaload, 0, 0, 0, []),
   (87, 1, .ireturn, 0, 0, 0, []),
   (88, 1, .aload_n 0, 0, 0, 0, []),
   (89, 3, .getfield 7, 8, 0, 0, []),
   (92, 1, .iconst 1, 0, 0, 1, []),
   (93, 1, .iaload, 0, 0, 0, []),
   (94, 1, .ireturn, 0, 0, 0, []),
   (95, 1, .aload_n 0, 0, 0, 0, [])],
  [(96, 3, .getfield 7, 8, 0, 0, []),
   (99, 1, .iconst 2, 0, 0, 2, []),
   (100, 1, .iaload, 0, 0, 0, []),
   (101, 1, .ireturn, 0, 0, 0, []),
   (102, 1, .aload_n 0, 0, 0, 0, []),
   (103, 3, .getfield 7, 8, 0, 0, []),
   (106, 1, .iconst 3, 0, 0, 3, []),
   (107, 1, .iaload, 0, 0, 0, []),
   (108, 1, .ireturn, 0, 0, 0, []),
   (109, 1, .aload_n 0, 0, 0, 0, []),
   (110, 3, .getfield 7, 8, 0, 0, [])],
  [(113, 1, .iconst 5, 0, 0, 5, []),
   (114, 1, .iaload, 0, 0, 0, []),
   (115, 1, .ireturn, 0, 0, 0, []),
   (116, 1, .aload_n 0, 0, 0, 0, []),
   (117, 3, .getfield 7, 8, 0, 0, []),
   (120, 2, .bipush 6, 0, 0, 6, []),
   (122, 1, .iaload, 0, 0, 0, []),
   (123, 1, .ireturn, 0, 0, 0, []),
   (124, 1, .aload_n 0, 0, 0, 0, []),
   (125, 3, .getfield 239, 8, 14, 0, [])],
  [(128, 1, .ireturn, 0, 0, 0, []),
   (129, 1, .aload_n 0, 0, 0, 0, []),
   (130, 3, .getfield 7, 8, 0, 0, []),
   (133, 1, .iconst 4, 0, 0, 4, []),
   (134, 1, .iaload, 0, 0, 0, []),
   (135, 1, .ireturn, 0, 0, 0, []),
   (136, 1, .aload_n 0, 0, 0, 0, []),
   (137, 1, .iconst 1, 0, 0, 1, []),
   (138, 3, .invokevirtual 65, 116, 801, 0, []),
   (141, 1, .ireturn, 0, 0, 0, [])]]
def cd_218 : aCd := [
  [(0, 1, .iload_n 1, 0, 0, 0, []),
   (1, 1, .iconst 1, 0, 0, 1, []),
   (2, 2, .bipush 6, 0, 0, 6, []),
   (4, 3, .invokestatic 53, 117, 3, 0, []),
   (7, 3, .ifCond .eq 12, 19, 0, 0, []),
   (10, 1, .aload_n 0, 0, 0, 0, []),
   (11, 3, .getfield 19, 8, 4, 0, []),
   (14, 1, .iload_n 1, 0, 0, 0, []),
   (15, 1, .iaload, 0, 0, 0, [])],
  [(16, 3, .goto 8, 24, 0, 0, []),
   (19, 1, .aload_n 0, 0, 0, 0, []),
   (20, 1, .iconst 1, 0, 0, 1, []),
   (21, 3, .invokevirtual 65, 116, 801, 0, []),
   (24, 1, .ireturn, 0, 0, 0, [])]]
def cd_219 : aCd := [
  [(0, 1, .iload_n 0, 0, 0, 0, []),
   (1, 1, .iload_n 0, 0, 0, 0, []),
   (2, 1, .iconst 1, 0, 0, 1, []),
   (3, 1, .iushr, 0, 0, 0, []),
   (4, 3, .ldc_w 265, 0, 0, 1431655765, []),
   (7, 1, .iand, 0, 0, 0, []),
   (8, 1, .isub, 0, 0, 0, []),
   (9, 1, .istore_n 0, 0, 0, 0, []),
   (10, 1, .iload_n 0, 0, 0, 0, []),
   (11, 3, .ldc_w 266, 0, 0, 858993459, []),
   (14, 1, .iand, 0, 0, 0, []),
   (15, 1, .iload_n 0, 0, 0, 0, [])],
  [(16, 1, .iconst 2, 0, 0, 2, []),
   (17, 1, .iushr, 0, 0, 0, []),
   (18, 3, .ldc_w 266, 0, 0, 858993459, []),
   (21, 1, .iand, 0, 0, 0, []),
   (22, 1, .iadd, 0, 0, 0, []),
   (23, 1, .istore_n 0, 0, 0, 0, []),
   (24, 1, .iload_n 0, 0, 0, 0, []),
   (25, 1, .iload_n 0, 0, 0, 0, []),
   (26, 1, .iconst 4, 0, 0, 4, []),
   (27, 1, .iushr, 0, 0, 0, []),
   (28, 1, .iadd, 0, 0, 0, []),
   (29, 3, .ldc_w 267, 0, 0, 252645135, [])],
  [(32, 1, .iand, 0, 0, 0, []),
   (33, 1, .istore_n 0, 0, 0, 0, []),
   (34, 1, .iload_n 0, 0, 0, 0, []),
   (35, 1, .iload_n 0, 0, 0, 0, []),
   (36, 2, .bipush 8, 0, 0, 8, []),
   (38, 1, .iushr, 0, 0, 0, []),
   (39, 1, .iadd, 0, 0, 0, []),
   (40, 1, .istore_n 0, 0, 0, 0, []),
   (41, 1, .iload_n 0, 0, 0, 0, []),
   (42, 1, .iload_n 0, 0, 0, 0, []),
   (43, 2, .bipush 16, 0, 0, 16, []),
   (45, 1, .iushr, 0, 0, 0, []),
   (46, 1, .iadd, 0, 0, 0, []),
   (47, 1, .istore_n 0, 0, 0, 0, [])],
  [(48, 1, .iload_n 0, 0, 0, 0, []),
   (49, 2, .bipush 63, 0, 0, 63, []),
   (51, 1, .iand, 0, 0, 0, []),
   (52, 1, .ireturn, 0, 0, 0, [])]]
def cd_220 : aCd := [
  [(0, 1, .iconst 0, 0, 0, 0, []),
   (1, 1, .istore_n 2, 0, 0, 0, []),
   (2, 1, .aload_n 0, 0, 0, 0, []),
   (3, 1, .arraylength, 0, 0, 0, []),
   (4, 1, .istore_n 3, 0, 0, 0, []),
   (5, 1, .iload_n 2, 0, 0, 0, []),
   (6, 1, .iload_n 3, 0, 0, 0, []),
   (7, 3, .if_icmp .ge 13, 20, 0, 0, []),
   (10, 1, .aload_n 0, 0, 0, 0, []),
   (11, 1, .iload_n 2, 0, 0, 0, []),
   (12, 1, .iload_n 1, 0, 0, 0, []),
   (13, 1, .iastore, 0, 0, 0, []),
   (14, 3, .iinc 2 1, 0, 0, 1, [])],
  [(17, 3, .goto (-12), 5, 0, 0, []),
   (20, 1, .return_, 0, 0, 0, [])]]
def cd_221 : aCd := [
  [(0, 1, .aload_n 0, 0, 0, 0, []),
   (1, 1, .iload_n 1, 0, 0, 0, []),
   (2, 1, .iconst 0, 0, 0, 0, []),
   (3, 3, .invokevirtual 633, 222, 1202, 0, []),
   (6, 1, .ireturn, 0, 0, 0, [])]]
def cd_222 : aCd := [
  [(0, 1, .aload_n 0, 0, 0, 0, []),
   (1, 3, .invokevirtual 492, 223, 1200, 0, []),
   (4, 3, .ifCond .eq 19, 23, 0, 0, []),
   (7, 1, .aload_n 0, 0, 0, 0, []),
   (8, 3, .getfield 9, 50, 0, 0, []),
   (11, 1, .iload_n 1, 0, 0, 0, []),
   (12, 1, .iload_n 2, 0, 0, 0, []),
   (13, 1, .aload_n 0, 0, 0, 0, []),
   (14, 3, .invokevirtual 505, 224, 1200, 0, [])],
  [(17, 3, .invokestatic 637, 226, 4, 0, []),
   (20, 3, .goto 16, 36, 0, 0, []),
   (23, 1, .aload_n 0, 0, 0, 0, []),
   (24, 3, .getfield 9, 50, 0, 0, []),
   (27, 1, .iload_n 1, 0, 0, 0, []),
   (28, 1, .iload_n 2, 0, 0, 0, []),
   (29, 1, .aload_n 0, 0, 0, 0, []),
   (30, 3, .invokevirtual 505, 224, 1200, 0, [])],
  [(33, 3, .invokestatic 640, 999, 0, 0, []),
   (36, 1, .ireturn, 0, 0, 0, [])]]
def cd_223 : aCd := [
  [(0, 3, .getstatic 38, 1, 0, 0, []),
   (3, 3, .ifCond .eq 14, 17, 0, 0, []),
   (6, 1, .aload_n 0, 0, 0, 0, []),
   (7, 3, .getfield 15, 50, 1, 0, []),
   (10, 3, .ifCond .ne 7, 17, 0, 0, []),
   (13, 1, .iconst 1, 0, 0, 1, []),
   (14, 3, .goto 4, 18, 0, 0, [])],
  [(17, 1, .iconst 0, 0, 0, 0, []),
   (18, 1, .ireturn, 0, 0, 0, [])]]
def cd_224 : aCd := [
  [(0, 1, .aload_n 0, 0, 0, 0, []),
   (1, 3, .getfield 9, 50, 0, 0, []),
   (4, 1, .arraylength, 0, 0, 0, []),
   (5, 1, .aload_n 0, 0, 0, 0, []),
   (6, 3, .invokevirtual 335, 225, 1200, 0, []),
   (9, 1, .ishr, 0, 0, 0, []),
   (10, 1, .ireturn, 0, 0, 0, [])]]
def cd_225 : aCd := [
  [(0, 3, .getstatic 38, 1, 0, 0, []),
   (3, 3, .ifCond .eq 10, 13, 0, 0, []),
   (6, 1, .aload_n 0, 0, 0, 0, []),
   (7, 3, .getfield 15, 50, 1, 0, []),
   (10, 3, .goto 4, 14, 0, 0, []),
   (13, 1, .iconst 1, 0, 0, 1, []),
   (14, 1, .ireturn, 0, 0, 0, [])]]
def cd_226 : aCd := [
  [(0, 1, .iload_n 1, 0, 0, 0, []),
   (1, 3, .invokestatic 88, 227, 1, 0, []),
   (4, 3, .ifCond .ne 5, 9, 0, 0, []),
   (7, 1, .iconst (-1), 0, 0, -1, []),
   (8, 1, .ireturn, 0, 0, 0, []),
   (9, 1, .iload_n 2, 0, 0, 0, []),
   (10, 1, .iconst 0, 0, 0, 0, []),
   (11, 3, .invokestatic 92, 900, 0, 0, []),
   (14, 1, .istore_n 2, 0, 0, 0, []),
   (15, 1, .iload_n 3, 0, 0, 0, [])],
  [(16, 1, .aload_n 0, 0, 0, 0, []),
   (17, 1, .arraylength, 0, 0, 0, []),
   (18, 3, .invokestatic 38, 901, 0, 0, []),
   (21, 1, .istore_n 3, 0, 0, 0, []),
   (22, 1, .iload_n 2, 0, 0, 0, []),
   (23, 1, .iload_n 3, 0, 0, 0, []),
   (24, 3, .if_icmp .lt 5, 29, 0, 0, []),
   (27, 1, .iconst (-1), 0, 0, -1, []),
   (28, 1, .ireturn, 0, 0, 0, []),
   (29, 1, .aload_n 0, 0, 0, 0, []),
   (30, 1, .iload_n 1, 0, 0, 0, []),
   (31, 1, .iload_n 2, 0, 0, 0, [])],
  [(32, 1, .iload_n 3, 0, 0, 0, []),
   (33, 3, .invokestatic 95, 228, 4, 0, []),
   (36, 1, .ireturn, 0, 0, 0, [])]]
def cd_227 : aCd := [
  [(0, 1, .iload_n 0, 0, 0, 0, []),
   (1, 3, .ifCond .lt 14, 15, 0, 0, []),
   (4, 1, .iload_n 0, 0, 0, 0, []),
   (5, 3, .sipush 255, 0, 0, 255, []),
   (8, 3, .if_icmp .gt 7, 15, 0, 0, []),
   (11, 1, .iconst 1, 0, 0, 1, []),
   (12, 3, .goto 4, 16, 0, 0, []),
   (15, 1, .iconst 0, 0, 0, 0, [])],
  [(16, 1, .ireturn, 0, 0, 0, [])]]
def cd_228 : aCd := [
  [(0, 1, .iload_n 1, 0, 0, 0, []),
   (1, 1, .i2b, 0, 0, 0, []),
   (2, 2, .istore 4, 0, 0, 0, []),
   (4, 1, .iload_n 2, 0, 0, 0, []),
   (5, 2, .istore 5, 0, 0, 0, []),
   (7, 2, .iload 5, 0, 0, 0, []),
   (9, 1, .iload_n 3, 0, 0, 0, []),
   (10, 3, .if_icmp .ge 21, 31, 0, 0, []),
   (13, 1, .aload_n 0, 0, 0, 0, []),
   (14, 2, .iload 5, 0, 0, 0, [])],
  [(16, 1, .baload, 0, 0, 0, []),
   (17, 2, .iload 4, 0, 0, 0, []),
   (19, 3, .if_icmp .ne 6, 25, 0, 0, []),
   (22, 2, .iload 5, 0, 0, 0, []),
   (24, 1, .ireturn, 0, 0, 0, []),
   (25, 3, .iinc 5 1, 0, 0, 1, []),
   (28, 3, .goto (-21), 7, 0, 0, []),
   (31, 1, .iconst (-1), 0, 0, -1, [])],
  [(32, 1, .ireturn, 0, 0, 0, [])]]
def cd_law : aCd := [
  [(0, 3, .new 7, 7, 0, 0, []),
   (3, 1, .dup, 0, 0, 0, []),
   (4, 3, .invokespecial 9, 63, 0, 0, []),
   (7, 1, .astore_n 1, 0, 0, 0, []),
   (8, 3, .new 10, 8, 0, 0, []),
   (11, 1, .dup, 0, 0, 0, []),
   (12, 3, .invokespecial 12, 115, 0, 0, []),
   (15, 1, .astore_n 2, 0, 0, 0, [])],
  [(16, 1, .iconst 0, 0, 0, 0, []),
   (17, 1, .istore_n 3, 0, 0, 0, []),
   (18, 1, .iload_n 3, 0, 0, 0, []),
   (19, 1, .aload_n 0, 0, 0, 0, []),
   (20, 1, .arraylength, 0, 0, 0, []),
   (21, 2, .bipush 6, 0, 0, 6, []),
   (23, 1, .isub, 0, 0, 0, []),
   (24, 3, .if_icmp .gt 1467, 1491, 0, 0, []),
   (27, 1, .aload_n 0, 0, 0, 0, []),
   (28, 1, .iload_n 3, 0, 0, 0, []),
   (29, 1, .iaload, 0, 0, 0, []),
   (30, 2, .bipush 63, 0, 0, 63, [])],
  [(32, 1, .iand, 0, 0, 0, []),
   (33, 179, .tableswitch 1452 0 40 #[179, 202, 235, 268, 301, 344, 397, 430, 473, 496, 559, 582, 605, 658, 691, 724, 757, 780, 803, 826, 869, 902, 925, 948, 981, 1014, 1037, 1070, 1083, 1126, 1149, 1192, 1235, 1298, 1321, 1344, 1357, 1370, 1393, 1406, 1429], 1485, 0, 0, [(0, 212), (1, 235), (2, 268), (3, 301), (4, 334), (5, 377), (6, 430), (7, 463), (8, 506), (9, 529), (10, 592), (11, 615), (12, 638), (13, 691), (14, 724), (15, 757), (16, 790), (17, 813), (18, 836), (19, 859), (20, 902), (21, 935), (22, 958), (23, 981), (24, 1014), (25, 1047), (26, 1070), (27, 1103), (28, 1116), (29, 1159), (30, 1182), (31, 1225), (32, 1268), (33, 1331), (34, 1354), (35, 1377), (36, 1390), (37, 1403), (38, 1426), (39, 1439), (40, 1462)])],
  [],
  [],
  [],
  [],
  [],
  [],
  [],
  [],
  [],
  [],
  [(212, 1, .aload_n 1, 0, 0, 0, []),
   (213, 1, .aload_n 0, 0, 0, 0, []),
   (214, 1, .iload_n 3, 0, 0, 0, []),
   (215, 1, .iconst 1, 0, 0, 1, []),
   (216, 1, .iadd, 0, 0, 0, []),
   (217, 1, .iaload, 0, 0, 0, []),
   (218, 3, .invokevirtual 13, 64, 701, 0, []),
   (221, 1, .aload_n 2, 0, 0, 0, []),
   (222, 1, .aload_n 0, 0, 0, 0, []),
   (223, 1, .iload_n 3, 0, 0, 0, [])],
  [(224, 1, .iconst 1, 0, 0, 1, []),
   (225, 1, .iadd, 0, 0, 0, []),
   (226, 1, .iaload, 0, 0, 0, []),
   (227, 3, .invokevirtual 17, 164, 801, 0, []),
   (230, 3, .if_icmp .eq 1255, 1485, 0, 0, []),
   (233, 1, .iconst 0, 0, 0, 0, []),
   (234, 1, .ireturn, 0, 0, 0, []),
   (235, 1, .aload_n 1, 0, 0, 0, []),
   (236, 1, .aload_n 0, 0, 0, 0, []),
   (237, 1, .iload_n 3, 0, 0, 0, []),
   (238, 1, .iconst 1, 0, 0, 1, []),
   (239, 1, .iadd, 0, 0, 0, [])],
  [(240, 1, .iaload, 0, 0, 0, []),
   (241, 1, .aload_n 0, 0, 0, 0, []),
   (242, 1, .iload_n 3, 0, 0, 0, []),
   (243, 1, .iconst 2, 0, 0, 2, []),
   (244, 1, .iadd, 0, 0, 0, []),
   (245, 1, .iaload, 0, 0, 0, []),
   (246, 3, .invokevirtual 18, 65, 702, 0, []),
   (249, 1, .aload_n 2, 0, 0, 0, []),
   (250, 1, .aload_n 0, 0, 0, 0, []),
   (251, 1, .iload_n 3, 0, 0, 0, []),
   (252, 1, .iconst 1, 0, 0, 1, []),
   (253, 1, .iadd, 0, 0, 0, []),
   (254, 1, .iaload, 0, 0, 0, []),
   (255, 1, .aload_n 0, 0, 0, 0, [])],
  [(256, 1, .iload_n 3, 0, 0, 0, []),
   (257, 1, .iconst 2, 0, 0, 2, []),
   (258, 1, .iadd, 0, 0, 0, []),
   (259, 1, .iaload, 0, 0, 0, []),
   (260, 3, .invokevirtual 22, 166, 802, 0, []),
   (263, 3, .if_icmp .eq 1222, 1485, 0, 0, []),
   (266, 1, .iconst 0, 0, 0, 0, []),
   (267, 1, .ireturn, 0, 0, 0, []),
   (268, 1, .aload_n 1, 0, 0, 0, []),
   (269, 1, .aload_n 0, 0, 0, 0, []),
   (270, 1, .iload_n 3, 0, 0, 0, []),
   (271, 1, .iconst 1, 0, 0, 1, [])],
  [(272, 1, .iadd, 0, 0, 0, []),
   (273, 1, .iaload, 0, 0, 0, []),
   (274, 1, .aload_n 0, 0, 0, 0, []),
   (275, 1, .iload_n 3, 0, 0, 0, []),
   (276, 1, .iconst 2, 0, 0, 2, []),
   (277, 1, .iadd, 0, 0, 0, []),
   (278, 1, .iaload, 0, 0, 0, []),
   (279, 3, .invokevirtual 23, 66, 702, 0, []),
   (282, 1, .aload_n 2, 0, 0, 0, []),
   (283, 1, .aload_n 0, 0, 0, 0, []),
   (284, 1, .iload_n 3, 0, 0, 0, []),
   (285, 1, .iconst 1, 0, 0, 1, []),
   (286, 1, .iadd, 0, 0, 0, []),
   (287, 1, .iaload, 0, 0, 0, [])],
  [(288, 1, .aload_n 0, 0, 0, 0, []),
   (289, 1, .iload_n 3, 0, 0, 0, []),
   (290, 1, .iconst 2, 0, 0, 2, []),
   (291, 1, .iadd, 0, 0, 0, []),
   (292, 1, .iaload, 0, 0, 0, []),
   (293, 3, .invokevirtual 26, 167, 802, 0, []),
   (296, 3, .if_icmp .eq 1189, 1485, 0, 0, []),
   (299, 1, .iconst 0, 0, 0, 0, []),
   (300, 1, .ireturn, 0, 0, 0, []),
   (301, 1, .aload_n 1, 0, 0, 0, []),
   (302, 1, .aload_n 0, 0, 0, 0, []),
   (303, 1, .iload_n 3, 0, 0, 0, [])],
  [(304, 1, .iconst 1, 0, 0, 1, []),
   (305, 1, .iadd, 0, 0, 0, []),
   (306, 1, .iaload, 0, 0, 0, []),
   (307, 1, .aload_n 0, 0, 0, 0, []),
   (308, 1, .iload_n 3, 0, 0, 0, []),
   (309, 1, .iconst 2, 0, 0, 2, []),
   (310, 1, .iadd, 0, 0, 0, []),
   (311, 1, .iaload, 0, 0, 0, []),
   (312, 3, .invokevirtual 27, 67, 702, 0, []),
   (315, 1, .aload_n 2, 0, 0, 0, []),
   (316, 1, .aload_n 0, 0, 0, 0, []),
   (317, 1, .iload_n 3, 0, 0, 0, []),
   (318, 1, .iconst 1, 0, 0, 1, []),
   (319, 1, .iadd, 0, 0, 0, [])],
  [(320, 1, .iaload, 0, 0, 0, []),
   (321, 1, .aload_n 0, 0, 0, 0, []),
   (322, 1, .iload_n 3, 0, 0, 0, []),
   (323, 1, .iconst 2, 0, 0, 2, []),
   (324, 1, .iadd, 0, 0, 0, []),
   (325, 1, .iaload, 0, 0, 0, []),
   (326, 3, .invokevirtual 30, 168, 802, 0, []),
   (329, 3, .if_icmp .eq 1156, 1485, 0, 0, []),
   (332, 1, .iconst 0, 0, 0, 0, []),
   (333, 1, .ireturn, 0, 0, 0, []),
   (334, 1, .aload_n 1, 0, 0, 0, []),
   (335, 1, .aload_n 0, 0, 0, 0, [])],
  [(336, 1, .iload_n 3, 0, 0, 0, []),
   (337, 1, .iconst 1, 0, 0, 1, []),
   (338, 1, .iadd, 0, 0, 0, []),
   (339, 1, .iaload, 0, 0, 0, []),
   (340, 1, .aload_n 0, 0, 0, 0, []),
   (341, 1, .iload_n 3, 0, 0, 0, []),
   (342, 1, .iconst 2, 0, 0, 2, []),
   (343, 1, .iadd, 0, 0, 0, []),
   (344, 1, .iaload, 0, 0, 0, []),
   (345, 1, .aload_n 0, 0, 0, 0, []),
   (346, 1, .iload_n 3, 0, 0, 0, []),
   (347, 1, .iconst 3, 0, 0, 3, []),
   (348, 1, .iadd, 0, 0, 0, []),
   (349, 1, .iaload, 0, 0, 0, []),
   (350, 3, .invokevirtual 31, 68, 703, 0, [])],
  [(353, 1, .aload_n 2, 0, 0, 0, []),
   (354, 1, .aload_n 0, 0, 0, 0, []),
   (355, 1, .iload_n 3, 0, 0, 0, []),
   (356, 1, .iconst 1, 0, 0, 1, []),
   (357, 1, .iadd, 0, 0, 0, []),
   (358, 1, .iaload, 0, 0, 0, []),
   (359, 1, .aload_n 0, 0, 0, 0, []),
   (360, 1, .iload_n 3, 0, 0, 0, []),
   (361, 1, .iconst 2, 0, 0, 2, []),
   (362, 1, .iadd, 0, 0, 0, []),
   (363, 1, .iaload, 0, 0, 0, []),
   (364, 1, .aload_n 0, 0, 0, 0, []),
   (365, 1, .iload_n 3, 0, 0, 0, []),
   (366, 1, .iconst 3, 0, 0, 3, []),
   (367, 1, .iadd, 0, 0, 0, [])],
  [(368, 1, .iaload, 0, 0, 0, []),
   (369, 3, .invokevirtual 35, 169, 803, 0, []),
   (372, 3, .if_icmp .eq 1113, 1485, 0, 0, []),
   (375, 1, .iconst 0, 0, 0, 0, []),
   (376, 1, .ireturn, 0, 0, 0, []),
   (377, 1, .aload_n 1, 0, 0, 0, []),
   (378, 1, .aload_n 0, 0, 0, 0, []),
   (379, 1, .iload_n 3, 0, 0, 0, []),
   (380, 1, .iconst 1, 0, 0, 1, []),
   (381, 1, .iadd, 0, 0, 0, []),
   (382, 1, .iaload, 0, 0, 0, []),
   (383, 1, .aload_n 0, 0, 0, 0, [])],
  [(384, 1, .iload_n 3, 0, 0, 0, []),
   (385, 1, .iconst 2, 0, 0, 2, []),
   (386, 1, .iadd, 0, 0, 0, []),
   (387, 1, .iaload, 0, 0, 0, []),
   (388, 1, .aload_n 0, 0, 0, 0, []),
   (389, 1, .iload_n 3, 0, 0, 0, []),
   (390, 1, .iconst 3, 0, 0, 3, []),
   (391, 1, .iadd, 0, 0, 0, []),
   (392, 1, .iaload, 0, 0, 0, []),
   (393, 1, .aload_n 0, 0, 0, 0, []),
   (394, 1, .iload_n 3, 0, 0, 0, []),
   (395, 1, .iconst 4, 0, 0, 4, []),
   (396, 1, .iadd, 0, 0, 0, []),
   (397, 1, .iaload, 0, 0, 0, []),
   (398, 3, .invokevirtual 36, 69, 704, 0, [])],
  [(401, 1, .aload_n 2, 0, 0, 0, []),
   (402, 1, .aload_n 0, 0, 0, 0, []),
   (403, 1, .iload_n 3, 0, 0, 0, []),
   (404, 1, .iconst 1, 0, 0, 1, []),
   (405, 1, .iadd, 0, 0, 0, []),
   (406, 1, .iaload, 0, 0, 0, []),
   (407, 1, .aload_n 0, 0, 0, 0, []),
   (408, 1, .iload_n 3, 0, 0, 0, []),
   (409, 1, .iconst 2, 0, 0, 2, []),
   (410, 1, .iadd, 0, 0, 0, []),
   (411, 1, .iaload, 0, 0, 0, []),
   (412, 1, .aload_n 0, 0, 0, 0, []),
   (413, 1, .iload_n 3, 0, 0, 0, []),
   (414, 1, .iconst 3, 0, 0, 3, []),
   (415, 1, .iadd, 0, 0, 0, [])],
  [(416, 1, .iaload, 0, 0, 0, []),
   (417, 1, .aload_n 0, 0, 0, 0, []),
   (418, 1, .iload_n 3, 0, 0, 0, []),
   (419, 1, .iconst 4, 0, 0, 4, []),
   (420, 1, .iadd, 0, 0, 0, []),
   (421, 1, .iaload, 0, 0, 0, []),
   (422, 3, .invokevirtual 40, 171, 804, 0, []),
   (425, 3, .if_icmp .eq 1060, 1485, 0, 0, []),
   (428, 1, .iconst 0, 0, 0, 0, []),
   (429, 1, .ireturn, 0, 0, 0, []),
   (430, 1, .aload_n 1, 0, 0, 0, []),
   (431, 1, .aload_n 0, 0, 0, 0, [])],
  [(432, 1, .iload_n 3, 0, 0, 0, []),
   (433, 1, .iconst 1, 0, 0, 1, []),
   (434, 1, .iadd, 0, 0, 0, []),
   (435, 1, .iaload, 0, 0, 0, []),
   (436, 1, .aload_n 0, 0, 0, 0, []),
   (437, 1, .iload_n 3, 0, 0, 0, []),
   (438, 1, .iconst 2, 0, 0, 2, []),
   (439, 1, .iadd, 0, 0, 0, []),
   (440, 1, .iaload, 0, 0, 0, []),
   (441, 3, .invokevirtual 41, 70, 702, 0, []),
   (444, 1, .aload_n 2, 0, 0, 0, []),
   (445, 1, .aload_n 0, 0, 0, 0, []),
   (446, 1, .iload_n 3, 0, 0, 0, []),
   (447, 1, .iconst 1, 0, 0, 1, [])],
  [(448, 1, .iadd, 0, 0, 0, []),
   (449, 1, .iaload, 0, 0, 0, []),
   (450, 1, .aload_n 0, 0, 0, 0, []),
   (451, 1, .iload_n 3, 0, 0, 0, []),
   (452, 1, .iconst 2, 0, 0, 2, []),
   (453, 1, .iadd, 0, 0, 0, []),
   (454, 1, .iaload, 0, 0, 0, []),
   (455, 3, .invokevirtual 44, 172, 802, 0, []),
   (458, 3, .if_icmp .eq 1027, 1485, 0, 0, []),
   (461, 1, .iconst 0, 0, 0, 0, []),
   (462, 1, .ireturn, 0, 0, 0, []),
   (463, 1, .aload_n 1, 0, 0, 0, [])],
  [(464, 1, .aload_n 0, 0, 0, 0, []),
   (465, 1, .iload_n 3, 0, 0, 0, []),
   (466, 1, .iconst 1, 0, 0, 1, []),
   (467, 1, .iadd, 0, 0, 0, []),
   (468, 1, .iaload, 0, 0, 0, []),
   (469, 1, .aload_n 0, 0, 0, 0, []),
   (470, 1, .iload_n 3, 0, 0, 0, []),
   (471, 1, .iconst 2, 0, 0, 2, []),
   (472, 1, .iadd, 0, 0, 0, []),
   (473, 1, .iaload, 0, 0, 0, []),
   (474, 1, .aload_n 0, 0, 0, 0, []),
   (475, 1, .iload_n 3, 0, 0, 0, []),
   (476, 1, .iconst 3, 0, 0, 3, []),
   (477, 1, .iadd, 0, 0, 0, []),
   (478, 1, .iaload, 0, 0, 0, []),
   (479, 3, .invokevirtual 45, 71, 703, 0, [])],
  [(482, 1, .aload_n 2, 0, 0, 0, []),
   (483, 1, .aload_n 0, 0, 0, 0, []),
   (484, 1, .iload_n 3, 0, 0, 0, []),
   (485, 1, .iconst 1, 0, 0, 1, []),
   (486, 1, .iadd, 0, 0, 0, []),
   (487, 1, .iaload, 0, 0, 0, []),
   (488, 1, .aload_n 0, 0, 0, 0, []),
   (489, 1, .iload_n 3, 0, 0, 0, []),
   (490, 1, .iconst 2, 0, 0, 2, []),
   (491, 1, .iadd, 0, 0, 0, []),
   (492, 1, .iaload, 0, 0, 0, []),
   (493, 1, .aload_n 0, 0, 0, 0, []),
   (494, 1, .iload_n 3, 0, 0, 0, []),
   (495, 1, .iconst 3, 0, 0, 3, [])],
  [(496, 1, .iadd, 0, 0, 0, []),
   (497, 1, .iaload, 0, 0, 0, []),
   (498, 3, .invokevirtual 48, 173, 803, 0, []),
   (501, 3, .if_icmp .eq 984, 1485, 0, 0, []),
   (504, 1, .iconst 0, 0, 0, 0, []),
   (505, 1, .ireturn, 0, 0, 0, []),
   (506, 1, .aload_n 1, 0, 0, 0, []),
   (507, 1, .aload_n 0, 0, 0, 0, []),
   (508, 1, .iload_n 3, 0, 0, 0, []),
   (509, 1, .iconst 1, 0, 0, 1, []),
   (510, 1, .iadd, 0, 0, 0, []),
   (511, 1, .iaload, 0, 0, 0, [])],
  [(512, 3, .invokevirtual 49, 72, 701, 0, []),
   (515, 1, .aload_n 2, 0, 0, 0, []),
   (516, 1, .aload_n 0, 0, 0, 0, []),
   (517, 1, .iload_n 3, 0, 0, 0, []),
   (518, 1, .iconst 1, 0, 0, 1, []),
   (519, 1, .iadd, 0, 0, 0, []),
   (520, 1, .iaload, 0, 0, 0, []),
   (521, 3, .invokevirtual 52, 174, 801, 0, []),
   (524, 3, .if_icmp .eq 961, 1485, 0, 0, []),
   (527, 1, .iconst 0, 0, 0, 0, [])],
  [(528, 1, .ireturn, 0, 0, 0, []),
   (529, 1, .aload_n 1, 0, 0, 0, []),
   (530, 1, .aload_n 0, 0, 0, 0, []),
   (531, 1, .iload_n 3, 0, 0, 0, []),
   (532, 1, .iconst 1, 0, 0, 1, []),
   (533, 1, .iadd, 0, 0, 0, []),
   (534, 1, .iaload, 0, 0, 0, []),
   (535, 1, .i2l, 0, 0, 0, []),
   (536, 2, .bipush 32, 0, 0, 32, []),
   (538, 1, .lshl, 0, 0, 0, []),
   (539, 1, .aload_n 0, 0, 0, 0, []),
   (540, 1, .iload_n 3, 0, 0, 0, []),
   (541, 1, .iconst 2, 0, 0, 2, []),
   (542, 1, .iadd, 0, 0, 0, []),
   (543, 1, .iaload, 0, 0, 0, [])],
  [(544, 1, .i2l, 0, 0, 0, []),
   (545, 3, .ldc2_w 53, 4294967295, 0, 0, []),
   (548, 1, .land, 0, 0, 0, []),
   (549, 1, .lor, 0, 0, 0, []),
   (550, 1, .aload_n 0, 0, 0, 0, []),
   (551, 1, .iload_n 3, 0, 0, 0, []),
   (552, 1, .iconst 3, 0, 0, 3, []),
   (553, 1, .iadd, 0, 0, 0, []),
   (554, 1, .iaload, 0, 0, 0, []),
   (555, 3, .invokevirtual 55, 73, 702, 0, []),
   (558, 1, .aload_n 2, 0, 0, 0, []),
   (559, 1, .aload_n 0, 0, 0, 0, [])],
  [(560, 1, .iload_n 3, 0, 0, 0, []),
   (561, 1, .iconst 1, 0, 0, 1, []),
   (562, 1, .iadd, 0, 0, 0, []),
   (563, 1, .iaload, 0, 0, 0, []),
   (564, 1, .i2l, 0, 0, 0, []),
   (565, 2, .bipush 32, 0, 0, 32, []),
   (567, 1, .lshl, 0, 0, 0, []),
   (568, 1, .aload_n 0, 0, 0, 0, []),
   (569, 1, .iload_n 3, 0, 0, 0, []),
   (570, 1, .iconst 2, 0, 0, 2, []),
   (571, 1, .iadd, 0, 0, 0, []),
   (572, 1, .iaload, 0, 0, 0, []),
   (573, 1, .i2l, 0, 0, 0, []),
   (574, 3, .ldc2_w 53, 4294967295, 0, 0, [])],
  [(577, 1, .land, 0, 0, 0, []),
   (578, 1, .lor, 0, 0, 0, []),
   (579, 1, .aload_n 0, 0, 0, 0, []),
   (580, 1, .iload_n 3, 0, 0, 0, []),
   (581, 1, .iconst 3, 0, 0, 3, []),
   (582, 1, .iadd, 0, 0, 0, []),
   (583, 1, .iaload, 0, 0, 0, []),
   (584, 3, .invokevirtual 59, 131, 802, 0, []),
   (587, 3, .if_icmp .eq 898, 1485, 0, 0, []),
   (590, 1, .iconst 0, 0, 0, 0, []),
   (591, 1, .ireturn, 0, 0, 0, [])],
  [(592, 1, .aload_n 1, 0, 0, 0, []),
   (593, 1, .aload_n 0, 0, 0, 0, []),
   (594, 1, .iload_n 3, 0, 0, 0, []),
   (595, 1, .iconst 1, 0, 0, 1, []),
   (596, 1, .iadd, 0, 0, 0, []),
   (597, 1, .iaload, 0, 0, 0, []),
   (598, 3, .invokevirtual 60, 74, 701, 0, []),
   (601, 1, .aload_n 2, 0, 0, 0, []),
   (602, 1, .aload_n 0, 0, 0, 0, []),
   (603, 1, .iload_n 3, 0, 0, 0, []),
   (604, 1, .iconst 1, 0, 0, 1, []),
   (605, 1, .iadd, 0, 0, 0, []),
   (606, 1, .iaload, 0, 0, 0, []),
   (607, 3, .invokevirtual 63, 143, 801, 0, [])],
  [(610, 3, .if_icmp .eq 875, 1485, 0, 0, []),
   (613, 1, .iconst 0, 0, 0, 0, []),
   (614, 1, .ireturn, 0, 0, 0, []),
   (615, 1, .aload_n 1, 0, 0, 0, []),
   (616, 1, .aload_n 0, 0, 0, 0, []),
   (617, 1, .iload_n 3, 0, 0, 0, []),
   (618, 1, .iconst 1, 0, 0, 1, []),
   (619, 1, .iadd, 0, 0, 0, []),
   (620, 1, .iaload, 0, 0, 0, []),
   (621, 3, .invokevirtual 64, 75, 701, 0, [])],
  [(624, 1, .aload_n 2, 0, 0, 0, []),
   (625, 1, .aload_n 0, 0, 0, 0, []),
   (626, 1, .iload_n 3, 0, 0, 0, []),
   (627, 1, .iconst 1, 0, 0, 1, []),
   (628, 1, .iadd, 0, 0, 0, []),
   (629, 1, .iaload, 0, 0, 0, []),
   (630, 3, .invokevirtual 67, 144, 801, 0, []),
   (633, 3, .if_icmp .eq 852, 1485, 0, 0, []),
   (636, 1, .iconst 0, 0, 0, 0, []),
   (637, 1, .ireturn, 0, 0, 0, []),
   (638, 1, .aload_n 1, 0, 0, 0, []),
   (639, 1, .aload_n 0, 0, 0, 0, [])],
  [(640, 1, .iload_n 3, 0, 0, 0, []),
   (641, 1, .iconst 1, 0, 0, 1, []),
   (642, 1, .iadd, 0, 0, 0, []),
   (643, 1, .iaload, 0, 0, 0, []),
   (644, 1, .aload_n 0, 0, 0, 0, []),
   (645, 1, .iload_n 3, 0, 0, 0, []),
   (646, 1, .iconst 2, 0, 0, 2, []),
   (647, 1, .iadd, 0, 0, 0, []),
   (648, 1, .iaload, 0, 0, 0, []),
   (649, 1, .aload_n 0, 0, 0, 0, []),
   (650, 1, .iload_n 3, 0, 0, 0, []),
   (651, 1, .iconst 3, 0, 0, 3, []),
   (652, 1, .iadd, 0, 0, 0, []),
   (653, 1, .iaload, 0, 0, 0, []),
   (654, 1, .aload_n 0, 0, 0, 0, []),
   (655, 1, .iload_n 3, 0, 0, 0, [])],
  [(656, 1, .iconst 4, 0, 0, 4, []),
   (657, 1, .iadd, 0, 0, 0, []),
   (658, 1, .iaload, 0, 0, 0, []),
   (659, 3, .invokevirtual 68, 76, 704, 0, []),
   (662, 1, .aload_n 2, 0, 0, 0, []),
   (663, 1, .aload_n 0, 0, 0, 0, []),
   (664, 1, .iload_n 3, 0, 0, 0, []),
   (665, 1, .iconst 1, 0, 0, 1, []),
   (666, 1, .iadd, 0, 0, 0, []),
   (667, 1, .iaload, 0, 0, 0, []),
   (668, 1, .aload_n 0, 0, 0, 0, []),
   (669, 1, .iload_n 3, 0, 0, 0, []),
   (670, 1, .iconst 2, 0, 0, 2, []),
   (671, 1, .iadd, 0, 0, 0, [])],
  [(672, 1, .iaload, 0, 0, 0, []),
   (673, 1, .aload_n 0, 0, 0, 0, []),
   (674, 1, .iload_n 3, 0, 0, 0, []),
   (675, 1, .iconst 3, 0, 0, 3, []),
   (676, 1, .iadd, 0, 0, 0, []),
   (677, 1, .iaload, 0, 0, 0, []),
   (678, 1, .aload_n 0, 0, 0, 0, []),
   (679, 1, .iload_n 3, 0, 0, 0, []),
   (680, 1, .iconst 4, 0, 0, 4, []),
   (681, 1, .iadd, 0, 0, 0, []),
   (682, 1, .iaload, 0, 0, 0, []),
   (683, 3, .invokevirtual 71, 175, 804, 0, []),
   (686, 3, .if_icmp .eq 799, 1485, 0, 0, [])],
  [(689, 1, .iconst 0, 0, 0, 0, []),
   (690, 1, .ireturn, 0, 0, 0, []),
   (691, 1, .aload_n 1, 0, 0, 0, []),
   (692, 1, .aload_n 0, 0, 0, 0, []),
   (693, 1, .iload_n 3, 0, 0, 0, []),
   (694, 1, .iconst 1, 0, 0, 1, []),
   (695, 1, .iadd, 0, 0, 0, []),
   (696, 1, .iaload, 0, 0, 0, []),
   (697, 1, .aload_n 0, 0, 0, 0, []),
   (698, 1, .iload_n 3, 0, 0, 0, []),
   (699, 1, .iconst 2, 0, 0, 2, []),
   (700, 1, .iadd, 0, 0, 0, []),
   (701, 1, .iaload, 0, 0, 0, []),
   (702, 3, .invokevirtual 72, 77, 702, 0, [])],
  [(705, 1, .aload_n 2, 0, 0, 0, []),
   (706, 1, .aload_n 0, 0, 0, 0, []),
   (707, 1, .iload_n 3, 0, 0, 0, []),
   (708, 1, .iconst 1, 0, 0, 1, []),
   (709, 1, .iadd, 0, 0, 0, []),
   (710, 1, .iaload, 0, 0, 0, []),
   (711, 1, .aload_n 0, 0, 0, 0, []),
   (712, 1, .iload_n 3, 0, 0, 0, []),
   (713, 1, .iconst 2, 0, 0, 2, []),
   (714, 1, .iadd, 0, 0, 0, []),
   (715, 1, .iaload, 0, 0, 0, []),
   (716, 3, .invokevirtual 75, 176, 802, 0, []),
   (719, 3, .if_icmp .eq 766, 1485, 0, 0, [])],
  [(722, 1, .iconst 0, 0, 0, 0, []),
   (723, 1, .ireturn, 0, 0, 0, []),
   (724, 1, .aload_n 1, 0, 0, 0, []),
   (725, 1, .aload_n 0, 0, 0, 0, []),
   (726, 1, .iload_n 3, 0, 0, 0, []),
   (727, 1, .iconst 1, 0, 0, 1, []),
   (728, 1, .iadd, 0, 0, 0, []),
   (729, 1, .iaload, 0, 0, 0, []),
   (730, 1, .aload_n 0, 0, 0, 0, []),
   (731, 1, .iload_n 3, 0, 0, 0, []),
   (732, 1, .iconst 2, 0, 0, 2, []),
   (733, 1, .iadd, 0, 0, 0, []),
   (734, 1, .iaload, 0, 0, 0, []),
   (735, 3, .invokevirtual 76, 78, 702, 0, [])],
  [(738, 1, .aload_n 2, 0, 0, 0, []),
   (739, 1, .aload_n 0, 0, 0, 0, []),
   (740, 1, .iload_n 3, 0, 0, 0, []),
   (741, 1, .iconst 1, 0, 0, 1, []),
   (742, 1, .iadd, 0, 0, 0, []),
   (743, 1, .iaload, 0, 0, 0, []),
   (744, 1, .aload_n 0, 0, 0, 0, []),
   (745, 1, .iload_n 3, 0, 0, 0, []),
   (746, 1, .iconst 2, 0, 0, 2, []),
   (747, 1, .iadd, 0, 0, 0, []),
   (748, 1, .iaload, 0, 0, 0, []),
   (749, 3, .invokevirtual 79, 177, 802, 0, [])],
  [(752, 3, .if_icmp .eq 733, 1485, 0, 0, []),
   (755, 1, .iconst 0, 0, 0, 0, []),
   (756, 1, .ireturn, 0, 0, 0, []),
   (757, 1, .aload_n 1, 0, 0, 0, []),
   (758, 1, .aload_n 0, 0, 0, 0, []),
   (759, 1, .iload_n 3, 0, 0, 0, []),
   (760, 1, .iconst 1, 0, 0, 1, []),
   (761, 1, .iadd, 0, 0, 0, []),
   (762, 1, .iaload, 0, 0, 0, []),
   (763, 1, .aload_n 0, 0, 0, 0, []),
   (764, 1, .iload_n 3, 0, 0, 0, []),
   (765, 1, .iconst 2, 0, 0, 2, []),
   (766, 1, .iadd, 0, 0, 0, []),
   (767, 1, .iaload, 0, 0, 0, [])],
  [(768, 3, .invokevirtual 80, 79, 702, 0, []),
   (771, 1, .aload_n 2, 0, 0, 0, []),
   (772, 1, .aload_n 0, 0, 0, 0, []),
   (773, 1, .iload_n 3, 0, 0, 0, []),
   (774, 1, .iconst 1, 0, 0, 1, []),
   (775, 1, .iadd, 0, 0, 0, []),
   (776, 1, .iaload, 0, 0, 0, []),
   (777, 1, .aload_n 0, 0, 0, 0, []),
   (778, 1, .iload_n 3, 0, 0, 0, []),
   (779, 1, .iconst 2, 0, 0, 2, []),
   (780, 1, .iadd, 0, 0, 0, []),
   (781, 1, .iaload, 0, 0, 0, []),
   (782, 3, .invokevirtual 83, 178, 802, 0, [])],
  [(785, 3, .if_icmp .eq 700, 1485, 0, 0, []),
   (788, 1, .iconst 0, 0, 0, 0, []),
   (789, 1, .ireturn, 0, 0, 0, []),
   (790, 1, .aload_n 1, 0, 0, 0, []),
   (791, 1, .aload_n 0, 0, 0, 0, []),
   (792, 1, .iload_n 3, 0, 0, 0, []),
   (793, 1, .iconst 1, 0, 0, 1, []),
   (794, 1, .iadd, 0, 0, 0, []),
   (795, 1, .iaload, 0, 0, 0, []),
   (796, 3, .invokevirtual 84, 80, 701, 0, []),
   (799, 1, .aload_n 2, 0, 0, 0, [])],
  [(800, 1, .aload_n 0, 0, 0, 0, []),
   (801, 1, .iload_n 3, 0, 0, 0, []),
   (802, 1, .iconst 1, 0, 0, 1, []),
   (803, 1, .iadd, 0, 0, 0, []),
   (804, 1, .iaload, 0, 0, 0, []),
   (805, 3, .invokevirtual 87, 179, 801, 0, []),
   (808, 3, .if_icmp .eq 677, 1485, 0, 0, []),
   (811, 1, .iconst 0, 0, 0, 0, []),
   (812, 1, .ireturn, 0, 0, 0, []),
   (813, 1, .aload_n 1, 0, 0, 0, []),
   (814, 1, .aload_n 0, 0, 0, 0, []),
   (815, 1, .iload_n 3, 0, 0, 0, [])],
  [(816, 1, .iconst 1, 0, 0, 1, []),
   (817, 1, .iadd, 0, 0, 0, []),
   (818, 1, .iaload, 0, 0, 0, []),
   (819, 3, .invokevirtual 88, 81, 701, 0, []),
   (822, 1, .aload_n 2, 0, 0, 0, []),
   (823, 1, .aload_n 0, 0, 0, 0, []),
   (824, 1, .iload_n 3, 0, 0, 0, []),
   (825, 1, .iconst 1, 0, 0, 1, []),
   (826, 1, .iadd, 0, 0, 0, []),
   (827, 1, .iaload, 0, 0, 0, []),
   (828, 3, .invokevirtual 91, 180, 801, 0, []),
   (831, 3, .if_icmp .eq 654, 1485, 0, 0, [])],
  [(834, 1, .iconst 0, 0, 0, 0, []),
   (835, 1, .ireturn, 0, 0, 0, []),
   (836, 1, .aload_n 1, 0, 0, 0, []),
   (837, 1, .aload_n 0, 0, 0, 0, []),
   (838, 1, .iload_n 3, 0, 0, 0, []),
   (839, 1, .iconst 1, 0, 0, 1, []),
   (840, 1, .iadd, 0, 0, 0, []),
   (841, 1, .iaload, 0, 0, 0, []),
   (842, 3, .invokevirtual 92, 82, 701, 0, []),
   (845, 1, .aload_n 2, 0, 0, 0, []),
   (846, 1, .aload_n 0, 0, 0, 0, []),
   (847, 1, .iload_n 3, 0, 0, 0, [])],
  [(848, 1, .iconst 1, 0, 0, 1, []),
   (849, 1, .iadd, 0, 0, 0, []),
   (850, 1, .iaload, 0, 0, 0, []),
   (851, 3, .invokevirtual 95, 181, 801, 0, []),
   (854, 3, .if_icmp .eq 631, 1485, 0, 0, []),
   (857, 1, .iconst 0, 0, 0, 0, []),
   (858, 1, .ireturn, 0, 0, 0, []),
   (859, 1, .aload_n 1, 0, 0, 0, []),
   (860, 1, .aload_n 0, 0, 0, 0, []),
   (861, 1, .iload_n 3, 0, 0, 0, []),
   (862, 1, .iconst 1, 0, 0, 1, []),
   (863, 1, .iadd, 0, 0, 0, [])],
  [(864, 1, .iaload, 0, 0, 0, []),
   (865, 1, .aload_n 0, 0, 0, 0, []),
   (866, 1, .iload_n 3, 0, 0, 0, []),
   (867, 1, .iconst 2, 0, 0, 2, []),
   (868, 1, .iadd, 0, 0, 0, []),
   (869, 1, .iaload, 0, 0, 0, []),
   (870, 1, .aload_n 0, 0, 0, 0, []),
   (871, 1, .iload_n 3, 0, 0, 0, []),
   (872, 1, .iconst 3, 0, 0, 3, []),
   (873, 1, .iadd, 0, 0, 0, []),
   (874, 1, .iaload, 0, 0, 0, []),
   (875, 3, .invokevirtual 96, 83, 703, 0, []),
   (878, 1, .aload_n 2, 0, 0, 0, []),
   (879, 1, .aload_n 0, 0, 0, 0, [])],
  [(880, 1, .iload_n 3, 0, 0, 0, []),
   (881, 1, .iconst 1, 0, 0, 1, []),
   (882, 1, .iadd, 0, 0, 0, []),
   (883, 1, .iaload, 0, 0, 0, []),
   (884, 1, .aload_n 0, 0, 0, 0, []),
   (885, 1, .iload_n 3, 0, 0, 0, []),
   (886, 1, .iconst 2, 0, 0, 2, []),
   (887, 1, .iadd, 0, 0, 0, []),
   (888, 1, .iaload, 0, 0, 0, []),
   (889, 1, .aload_n 0, 0, 0, 0, []),
   (890, 1, .iload_n 3, 0, 0, 0, []),
   (891, 1, .iconst 3, 0, 0, 3, []),
   (892, 1, .iadd, 0, 0, 0, []),
   (893, 1, .iaload, 0, 0, 0, []),
   (894, 3, .invokevirtual 99, 182, 803, 0, [])],
  [(897, 3, .if_icmp .eq 588, 1485, 0, 0, []),
   (900, 1, .iconst 0, 0, 0, 0, []),
   (901, 1, .ireturn, 0, 0, 0, []),
   (902, 1, .aload_n 1, 0, 0, 0, []),
   (903, 1, .aload_n 0, 0, 0, 0, []),
   (904, 1, .iload_n 3, 0, 0, 0, []),
   (905, 1, .iconst 1, 0, 0, 1, []),
   (906, 1, .iadd, 0, 0, 0, []),
   (907, 1, .iaload, 0, 0, 0, []),
   (908, 1, .aload_n 0, 0, 0, 0, []),
   (909, 1, .iload_n 3, 0, 0, 0, []),
   (910, 1, .iconst 2, 0, 0, 2, []),
   (911, 1, .iadd, 0, 0, 0, [])],
  [(912, 1, .iaload, 0, 0, 0, []),
   (913, 3, .invokevirtual 100, 84, 702, 0, []),
   (916, 1, .aload_n 2, 0, 0, 0, []),
   (917, 1, .aload_n 0, 0, 0, 0, []),
   (918, 1, .iload_n 3, 0, 0, 0, []),
   (919, 1, .iconst 1, 0, 0, 1, []),
   (920, 1, .iadd, 0, 0, 0, []),
   (921, 1, .iaload, 0, 0, 0, []),
   (922, 1, .aload_n 0, 0, 0, 0, []),
   (923, 1, .iload_n 3, 0, 0, 0, []),
   (924, 1, .iconst 2, 0, 0, 2, []),
   (925, 1, .iadd, 0, 0, 0, []),
   (926, 1, .iaload, 0, 0, 0, []),
   (927, 3, .invokevirtual 103, 183, 802, 0, [])],
  [(930, 3, .if_icmp .eq 555, 1485, 0, 0, []),
   (933, 1, .iconst 0, 0, 0, 0, []),
   (934, 1, .ireturn, 0, 0, 0, []),
   (935, 1, .aload_n 1, 0, 0, 0, []),
   (936, 1, .aload_n 0, 0, 0, 0, []),
   (937, 1, .iload_n 3, 0, 0, 0, []),
   (938, 1, .iconst 1, 0, 0, 1, []),
   (939, 1, .iadd, 0, 0, 0, []),
   (940, 1, .iaload, 0, 0, 0, []),
   (941, 3, .invokevirtual 104, 85, 701, 0, [])],
  [(944, 1, .aload_n 2, 0, 0, 0, []),
   (945, 1, .aload_n 0, 0, 0, 0, []),
   (946, 1, .iload_n 3, 0, 0, 0, []),
   (947, 1, .iconst 1, 0, 0, 1, []),
   (948, 1, .iadd, 0, 0, 0, []),
   (949, 1, .iaload, 0, 0, 0, []),
   (950, 3, .invokevirtual 107, 185, 801, 0, []),
   (953, 3, .if_icmp .eq 532, 1485, 0, 0, []),
   (956, 1, .iconst 0, 0, 0, 0, []),
   (957, 1, .ireturn, 0, 0, 0, []),
   (958, 1, .aload_n 1, 0, 0, 0, []),
   (959, 1, .aload_n 0, 0, 0, 0, [])],
  [(960, 1, .iload_n 3, 0, 0, 0, []),
   (961, 1, .iconst 1, 0, 0, 1, []),
   (962, 1, .iadd, 0, 0, 0, []),
   (963, 1, .iaload, 0, 0, 0, []),
   (964, 3, .invokevirtual 108, 86, 701, 0, []),
   (967, 1, .aload_n 2, 0, 0, 0, []),
   (968, 1, .aload_n 0, 0, 0, 0, []),
   (969, 1, .iload_n 3, 0, 0, 0, []),
   (970, 1, .iconst 1, 0, 0, 1, []),
   (971, 1, .iadd, 0, 0, 0, []),
   (972, 1, .iaload, 0, 0, 0, []),
   (973, 3, .invokevirtual 111, 188, 801, 0, [])],
  [(976, 3, .if_icmp .eq 509, 1485, 0, 0, []),
   (979, 1, .iconst 0, 0, 0, 0, []),
   (980, 1, .ireturn, 0, 0, 0, []),
   (981, 1, .aload_n 1, 0, 0, 0, []),
   (982, 1, .aload_n 0, 0, 0, 0, []),
   (983, 1, .iload_n 3, 0, 0, 0, []),
   (984, 1, .iconst 1, 0, 0, 1, []),
   (985, 1, .iadd, 0, 0, 0, []),
   (986, 1, .iaload, 0, 0, 0, []),
   (987, 1, .aload_n 0, 0, 0, 0, []),
   (988, 1, .iload_n 3, 0, 0, 0, []),
   (989, 1, .iconst 2, 0, 0, 2, []),
   (990, 1, .iadd, 0, 0, 0, []),
   (991, 1, .iaload, 0, 0, 0, [])],
  [(992, 3, .invokevirtual 112, 87, 702, 0, []),
   (995, 1, .aload_n 2, 0, 0, 0, []),
   (996, 1, .aload_n 0, 0, 0, 0, []),
   (997, 1, .iload_n 3, 0, 0, 0, []),
   (998, 1, .iconst 1, 0, 0, 1, []),
   (999, 1, .iadd, 0, 0, 0, []),
   (1000, 1, .iaload, 0, 0, 0, []),
   (1001, 1, .aload_n 0, 0, 0, 0, []),
   (1002, 1, .iload_n 3, 0, 0, 0, []),
   (1003, 1, .iconst 2, 0, 0, 2, []),
   (1004, 1, .iadd, 0, 0, 0, []),
   (1005, 1, .iaload, 0, 0, 0, []),
   (1006, 3, .invokevirtual 115, 190, 802, 0, [])],
  [(1009, 3, .if_icmp .eq 476, 1485, 0, 0, []),
   (1012, 1, .iconst 0, 0, 0, 0, []),
   (1013, 1, .ireturn, 0, 0, 0, []),
   (1014, 1, .aload_n 1, 0, 0, 0, []),
   (1015, 1, .aload_n 0, 0, 0, 0, []),
   (1016, 1, .iload_n 3, 0, 0, 0, []),
   (1017, 1, .iconst 1, 0, 0, 1, []),
   (1018, 1, .iadd, 0, 0, 0, []),
   (1019, 1, .iaload, 0, 0, 0, []),
   (1020, 1, .aload_n 0, 0, 0, 0, []),
   (1021, 1, .iload_n 3, 0, 0, 0, []),
   (1022, 1, .iconst 2, 0, 0, 2, []),
   (1023, 1, .iadd, 0, 0, 0, [])],
  [(1024, 1, .iaload, 0, 0, 0, []),
   (1025, 3, .invokevirtual 116, 88, 702, 0, []),
   (1028, 1, .aload_n 2, 0, 0, 0, []),
   (1029, 1, .aload_n 0, 0, 0, 0, []),
   (1030, 1, .iload_n 3, 0, 0, 0, []),
   (1031, 1, .iconst 1, 0, 0, 1, []),
   (1032, 1, .iadd, 0, 0, 0, []),
   (1033, 1, .iaload, 0, 0, 0, []),
   (1034, 1, .aload_n 0, 0, 0, 0, []),
   (1035, 1, .iload_n 3, 0, 0, 0, []),
   (1036, 1, .iconst 2, 0, 0, 2, []),
   (1037, 1, .iadd, 0, 0, 0, []),
   (1038, 1, .iaload, 0, 0, 0, []),
   (1039, 3, .invokevirtual 119, 192, 802, 0, [])],
  [(1042, 3, .if_icmp .eq 443, 1485, 0, 0, []),
   (1045, 1, .iconst 0, 0, 0, 0, []),
   (1046, 1, .ireturn, 0, 0, 0, []),
   (1047, 1, .aload_n 1, 0, 0, 0, []),
   (1048, 1, .aload_n 0, 0, 0, 0, []),
   (1049, 1, .iload_n 3, 0, 0, 0, []),
   (1050, 1, .iconst 1, 0, 0, 1, []),
   (1051, 1, .iadd, 0, 0, 0, []),
   (1052, 1, .iaload, 0, 0, 0, []),
   (1053, 3, .invokevirtual 120, 89, 701, 0, [])],
  [(1056, 1, .aload_n 2, 0, 0, 0, []),
   (1057, 1, .aload_n 0, 0, 0, 0, []),
   (1058, 1, .iload_n 3, 0, 0, 0, []),
   (1059, 1, .iconst 1, 0, 0, 1, []),
   (1060, 1, .iadd, 0, 0, 0, []),
   (1061, 1, .iaload, 0, 0, 0, []),
   (1062, 3, .invokevirtual 123, 193, 801, 0, []),
   (1065, 3, .if_icmp .eq 420, 1485, 0, 0, []),
   (1068, 1, .iconst 0, 0, 0, 0, []),
   (1069, 1, .ireturn, 0, 0, 0, []),
   (1070, 1, .aload_n 1, 0, 0, 0, []),
   (1071, 1, .aload_n 0, 0, 0, 0, [])],
  [(1072, 1, .iload_n 3, 0, 0, 0, []),
   (1073, 1, .iconst 1, 0, 0, 1, []),
   (1074, 1, .iadd, 0, 0, 0, []),
   (1075, 1, .iaload, 0, 0, 0, []),
   (1076, 1, .aload_n 0, 0, 0, 0, []),
   (1077, 1, .iload_n 3, 0, 0, 0, []),
   (1078, 1, .iconst 2, 0, 0, 2, []),
   (1079, 1, .iadd, 0, 0, 0, []),
   (1080, 1, .iaload, 0, 0, 0, []),
   (1081, 3, .invokevirtual 124, 90, 702, 0, []),
   (1084, 1, .aload_n 2, 0, 0, 0, []),
   (1085, 1, .aload_n 0, 0, 0, 0, []),
   (1086, 1, .iload_n 3, 0, 0, 0, []),
   (1087, 1, .iconst 1, 0, 0, 1, [])],
  [(1088, 1, .iadd, 0, 0, 0, []),
   (1089, 1, .iaload, 0, 0, 0, []),
   (1090, 1, .aload_n 0, 0, 0, 0, []),
   (1091, 1, .iload_n 3, 0, 0, 0, []),
   (1092, 1, .iconst 2, 0, 0, 2, []),
   (1093, 1, .iadd, 0, 0, 0, []),
   (1094, 1, .iaload, 0, 0, 0, []),
   (1095, 3, .invokevirtual 127, 194, 802, 0, []),
   (1098, 3, .if_icmp .eq 387, 1485, 0, 0, []),
   (1101, 1, .iconst 0, 0, 0, 0, []),
   (1102, 1, .ireturn, 0, 0, 0, []),
   (1103, 1, .aload_n 1, 0, 0, 0, [])],
  [(1104, 3, .invokevirtual 128, 91, 700, 0, []),
   (1107, 1, .aload_n 2, 0, 0, 0, []),
   (1108, 3, .invokevirtual 132, 195, 800, 0, []),
   (1111, 3, .if_icmp .eq 374, 1485, 0, 0, []),
   (1114, 1, .iconst 0, 0, 0, 0, []),
   (1115, 1, .ireturn, 0, 0, 0, []),
   (1116, 1, .aload_n 1, 0, 0, 0, []),
   (1117, 1, .aload_n 0, 0, 0, 0, []),
   (1118, 1, .iload_n 3, 0, 0, 0, []),
   (1119, 1, .iconst 1, 0, 0, 1, [])],
  [(1120, 1, .iadd, 0, 0, 0, []),
   (1121, 1, .iaload, 0, 0, 0, []),
   (1122, 1, .aload_n 0, 0, 0, 0, []),
   (1123, 1, .iload_n 3, 0, 0, 0, []),
   (1124, 1, .iconst 2, 0, 0, 2, []),
   (1125, 1, .iadd, 0, 0, 0, []),
   (1126, 1, .iaload, 0, 0, 0, []),
   (1127, 1, .aload_n 0, 0, 0, 0, []),
   (1128, 1, .iload_n 3, 0, 0, 0, []),
   (1129, 1, .iconst 3, 0, 0, 3, []),
   (1130, 1, .iadd, 0, 0, 0, []),
   (1131, 1, .iaload, 0, 0, 0, []),
   (1132, 3, .invokevirtual 133, 92, 703, 0, []),
   (1135, 1, .aload_n 2, 0, 0, 0, [])],
  [(1136, 1, .aload_n 0, 0, 0, 0, []),
   (1137, 1, .iload_n 3, 0, 0, 0, []),
   (1138, 1, .iconst 1, 0, 0, 1, []),
   (1139, 1, .iadd, 0, 0, 0, []),
   (1140, 1, .iaload, 0, 0, 0, []),
   (1141, 1, .aload_n 0, 0, 0, 0, []),
   (1142, 1, .iload_n 3, 0, 0, 0, []),
   (1143, 1, .iconst 2, 0, 0, 2, []),
   (1144, 1, .iadd, 0, 0, 0, []),
   (1145, 1, .iaload, 0, 0, 0, []),
   (1146, 1, .aload_n 0, 0, 0, 0, []),
   (1147, 1, .iload_n 3, 0, 0, 0, []),
   (1148, 1, .iconst 3, 0, 0, 3, []),
   (1149, 1, .iadd, 0, 0, 0, []),
   (1150, 1, .iaload, 0, 0, 0, []),
   (1151, 3, .invokevirtual 136, 204, 803, 0, [])],
  [(1154, 3, .if_icmp .eq 331, 1485, 0, 0, []),
   (1157, 1, .iconst 0, 0, 0, 0, []),
   (1158, 1, .ireturn, 0, 0, 0, []),
   (1159, 1, .aload_n 1, 0, 0, 0, []),
   (1160, 1, .aload_n 0, 0, 0, 0, []),
   (1161, 1, .iload_n 3, 0, 0, 0, []),
   (1162, 1, .iconst 1, 0, 0, 1, []),
   (1163, 1, .iadd, 0, 0, 0, []),
   (1164, 1, .iaload, 0, 0, 0, []),
   (1165, 3, .invokevirtual 137, 93, 701, 0, [])],
  [(1168, 1, .aload_n 2, 0, 0, 0, []),
   (1169, 1, .aload_n 0, 0, 0, 0, []),
   (1170, 1, .iload_n 3, 0, 0, 0, []),
   (1171, 1, .iconst 1, 0, 0, 1, []),
   (1172, 1, .iadd, 0, 0, 0, []),
   (1173, 1, .iaload, 0, 0, 0, []),
   (1174, 3, .invokevirtual 140, 205, 801, 0, []),
   (1177, 3, .if_icmp .eq 308, 1485, 0, 0, []),
   (1180, 1, .iconst 0, 0, 0, 0, []),
   (1181, 1, .ireturn, 0, 0, 0, []),
   (1182, 1, .aload_n 1, 0, 0, 0, []),
   (1183, 1, .aload_n 0, 0, 0, 0, [])],
  [(1184, 1, .iload_n 3, 0, 0, 0, []),
   (1185, 1, .iconst 1, 0, 0, 1, []),
   (1186, 1, .iadd, 0, 0, 0, []),
   (1187, 1, .iaload, 0, 0, 0, []),
   (1188, 1, .aload_n 0, 0, 0, 0, []),
   (1189, 1, .iload_n 3, 0, 0, 0, []),
   (1190, 1, .iconst 2, 0, 0, 2, []),
   (1191, 1, .iadd, 0, 0, 0, []),
   (1192, 1, .iaload, 0, 0, 0, []),
   (1193, 1, .aload_n 0, 0, 0, 0, []),
   (1194, 1, .iload_n 3, 0, 0, 0, []),
   (1195, 1, .iconst 3, 0, 0, 3, []),
   (1196, 1, .iadd, 0, 0, 0, []),
   (1197, 1, .iaload, 0, 0, 0, []),
   (1198, 3, .invokevirtual 141, 94, 703, 0, [])],
  [(1201, 1, .aload_n 2, 0, 0, 0, []),
   (1202, 1, .aload_n 0, 0, 0, 0, []),
   (1203, 1, .iload_n 3, 0, 0, 0, []),
   (1204, 1, .iconst 1, 0, 0, 1, []),
   (1205, 1, .iadd, 0, 0, 0, []),
   (1206, 1, .iaload, 0, 0, 0, []),
   (1207, 1, .aload_n 0, 0, 0, 0, []),
   (1208, 1, .iload_n 3, 0, 0, 0, []),
   (1209, 1, .iconst 2, 0, 0, 2, []),
   (1210, 1, .iadd, 0, 0, 0, []),
   (1211, 1, .iaload, 0, 0, 0, []),
   (1212, 1, .aload_n 0, 0, 0, 0, []),
   (1213, 1, .iload_n 3, 0, 0, 0, []),
   (1214, 1, .iconst 3, 0, 0, 3, []),
   (1215, 1, .iadd, 0, 0, 0, [])],
  [(1216, 1, .iaload, 0, 0, 0, []),
   (1217, 3, .invokevirtual 144, 207, 803, 0, []),
   (1220, 3, .if_icmp .eq 265, 1485, 0, 0, []),
   (1223, 1, .iconst 0, 0, 0, 0, []),
   (1224, 1, .ireturn, 0, 0, 0, []),
   (1225, 1, .aload_n 1, 0, 0, 0, []),
   (1226, 1, .aload_n 0, 0, 0, 0, []),
   (1227, 1, .iload_n 3, 0, 0, 0, []),
   (1228, 1, .iconst 1, 0, 0, 1, []),
   (1229, 1, .iadd, 0, 0, 0, []),
   (1230, 1, .iaload, 0, 0, 0, []),
   (1231, 1, .aload_n 0, 0, 0, 0, [])],
  [(1232, 1, .iload_n 3, 0, 0, 0, []),
   (1233, 1, .iconst 2, 0, 0, 2, []),
   (1234, 1, .iadd, 0, 0, 0, []),
   (1235, 1, .iaload, 0, 0, 0, []),
   (1236, 1, .aload_n 0, 0, 0, 0, []),
   (1237, 1, .iload_n 3, 0, 0, 0, []),
   (1238, 1, .iconst 3, 0, 0, 3, []),
   (1239, 1, .iadd, 0, 0, 0, []),
   (1240, 1, .iaload, 0, 0, 0, []),
   (1241, 3, .invokevirtual 145, 95, 703, 0, []),
   (1244, 1, .aload_n 2, 0, 0, 0, []),
   (1245, 1, .aload_n 0, 0, 0, 0, []),
   (1246, 1, .iload_n 3, 0, 0, 0, []),
   (1247, 1, .iconst 1, 0, 0, 1, [])],
  [(1248, 1, .iadd, 0, 0, 0, []),
   (1249, 1, .iaload, 0, 0, 0, []),
   (1250, 1, .aload_n 0, 0, 0, 0, []),
   (1251, 1, .iload_n 3, 0, 0, 0, []),
   (1252, 1, .iconst 2, 0, 0, 2, []),
   (1253, 1, .iadd, 0, 0, 0, []),
   (1254, 1, .iaload, 0, 0, 0, []),
   (1255, 1, .aload_n 0, 0, 0, 0, []),
   (1256, 1, .iload_n 3, 0, 0, 0, []),
   (1257, 1, .iconst 3, 0, 0, 3, []),
   (1258, 1, .iadd, 0, 0, 0, []),
   (1259, 1, .iaload, 0, 0, 0, []),
   (1260, 3, .invokevirtual 148, 208, 803, 0, []),
   (1263, 3, .if_icmp .eq 222, 1485, 0, 0, [])],
  [(1266, 1, .iconst 0, 0, 0, 0, []),
   (1267, 1, .ireturn, 0, 0, 0, []),
   (1268, 1, .aload_n 1, 0, 0, 0, []),
   (1269, 1, .aload_n 0, 0, 0, 0, []),
   (1270, 1, .iload_n 3, 0, 0, 0, []),
   (1271, 1, .iconst 1, 0, 0, 1, []),
   (1272, 1, .iadd, 0, 0, 0, []),
   (1273, 1, .iaload, 0, 0, 0, []),
   (1274, 1, .aload_n 0, 0, 0, 0, []),
   (1275, 1, .iload_n 3, 0, 0, 0, []),
   (1276, 1, .iconst 2, 0, 0, 2, []),
   (1277, 1, .iadd, 0, 0, 0, []),
   (1278, 1, .iaload, 0, 0, 0, []),
   (1279, 1, .aload_n 0, 0, 0, 0, [])],
  [(1280, 1, .iload_n 3, 0, 0, 0, []),
   (1281, 1, .iconst 3, 0, 0, 3, []),
   (1282, 1, .iadd, 0, 0, 0, []),
   (1283, 1, .iaload, 0, 0, 0, []),
   (1284, 1, .aload_n 0, 0, 0, 0, []),
   (1285, 1, .iload_n 3, 0, 0, 0, []),
   (1286, 1, .iconst 4, 0, 0, 4, []),
   (1287, 1, .iadd, 0, 0, 0, []),
   (1288, 1, .iaload, 0, 0, 0, []),
   (1289, 1, .aload_n 0, 0, 0, 0, []),
   (1290, 1, .iload_n 3, 0, 0, 0, []),
   (1291, 1, .iconst 5, 0, 0, 5, []),
   (1292, 1, .iadd, 0, 0, 0, []),
   (1293, 1, .iaload, 0, 0, 0, []),
   (1294, 3, .invokevirtual 149, 96, 705, 0, [])],
  [(1297, 1, .aload_n 2, 0, 0, 0, []),
   (1298, 1, .aload_n 0, 0, 0, 0, []),
   (1299, 1, .iload_n 3, 0, 0, 0, []),
   (1300, 1, .iconst 1, 0, 0, 1, []),
   (1301, 1, .iadd, 0, 0, 0, []),
   (1302, 1, .iaload, 0, 0, 0, []),
   (1303, 1, .aload_n 0, 0, 0, 0, []),
   (1304, 1, .iload_n 3, 0, 0, 0, []),
   (1305, 1, .iconst 2, 0, 0, 2, []),
   (1306, 1, .iadd, 0, 0, 0, []),
   (1307, 1, .iaload, 0, 0, 0, []),
   (1308, 1, .aload_n 0, 0, 0, 0, []),
   (1309, 1, .iload_n 3, 0, 0, 0, []),
   (1310, 1, .iconst 3, 0, 0, 3, []),
   (1311, 1, .iadd, 0, 0, 0, [])],
  [(1312, 1, .iaload, 0, 0, 0, []),
   (1313, 1, .aload_n 0, 0, 0, 0, []),
   (1314, 1, .iload_n 3, 0, 0, 0, []),
   (1315, 1, .iconst 4, 0, 0, 4, []),
   (1316, 1, .iadd, 0, 0, 0, []),
   (1317, 1, .iaload, 0, 0, 0, []),
   (1318, 1, .aload_n 0, 0, 0, 0, []),
   (1319, 1, .iload_n 3, 0, 0, 0, []),
   (1320, 1, .iconst 5, 0, 0, 5, []),
   (1321, 1, .iadd, 0, 0, 0, []),
   (1322, 1, .iaload, 0, 0, 0, []),
   (1323, 3, .invokevirtual 153, 209, 805, 0, []),
   (1326, 3, .if_icmp .eq 159, 1485, 0, 0, [])],
  [(1329, 1, .iconst 0, 0, 0, 0, []),
   (1330, 1, .ireturn, 0, 0, 0, []),
   (1331, 1, .aload_n 1, 0, 0, 0, []),
   (1332, 1, .aload_n 0, 0, 0, 0, []),
   (1333, 1, .iload_n 3, 0, 0, 0, []),
   (1334, 1, .iconst 1, 0, 0, 1, []),
   (1335, 1, .iadd, 0, 0, 0, []),
   (1336, 1, .iaload, 0, 0, 0, []),
   (1337, 3, .invokevirtual 154, 97, 701, 0, []),
   (1340, 1, .aload_n 2, 0, 0, 0, []),
   (1341, 1, .aload_n 0, 0, 0, 0, []),
   (1342, 1, .iload_n 3, 0, 0, 0, []),
   (1343, 1, .iconst 1, 0, 0, 1, [])],
  [(1344, 1, .iadd, 0, 0, 0, []),
   (1345, 1, .iaload, 0, 0, 0, []),
   (1346, 3, .invokevirtual 157, 211, 801, 0, []),
   (1349, 3, .if_icmp .eq 136, 1485, 0, 0, []),
   (1352, 1, .iconst 0, 0, 0, 0, []),
   (1353, 1, .ireturn, 0, 0, 0, []),
   (1354, 1, .aload_n 1, 0, 0, 0, []),
   (1355, 1, .aload_n 0, 0, 0, 0, []),
   (1356, 1, .iload_n 3, 0, 0, 0, []),
   (1357, 1, .iconst 1, 0, 0, 1, []),
   (1358, 1, .iadd, 0, 0, 0, []),
   (1359, 1, .iaload, 0, 0, 0, [])],
  [(1360, 3, .invokevirtual 158, 98, 701, 0, []),
   (1363, 1, .aload_n 2, 0, 0, 0, []),
   (1364, 1, .aload_n 0, 0, 0, 0, []),
   (1365, 1, .iload_n 3, 0, 0, 0, []),
   (1366, 1, .iconst 1, 0, 0, 1, []),
   (1367, 1, .iadd, 0, 0, 0, []),
   (1368, 1, .iaload, 0, 0, 0, []),
   (1369, 3, .invokevirtual 161, 212, 801, 0, []),
   (1372, 3, .if_icmp .eq 113, 1485, 0, 0, []),
   (1375, 1, .iconst 0, 0, 0, 0, [])],
  [(1376, 1, .ireturn, 0, 0, 0, []),
   (1377, 1, .aload_n 1, 0, 0, 0, []),
   (1378, 3, .invokevirtual 162, 99, 700, 0, []),
   (1381, 1, .aload_n 2, 0, 0, 0, []),
   (1382, 3, .invokevirtual 165, 213, 800, 0, []),
   (1385, 3, .if_icmp .eq 100, 1485, 0, 0, []),
   (1388, 1, .iconst 0, 0, 0, 0, []),
   (1389, 1, .ireturn, 0, 0, 0, []),
   (1390, 1, .aload_n 1, 0, 0, 0, []),
   (1391, 3, .invokevirtual 166, 100, 700, 0, [])],
  [(1394, 1, .aload_n 2, 0, 0, 0, []),
   (1395, 3, .invokevirtual 169, 214, 800, 0, []),
   (1398, 3, .if_icmp .eq 87, 1485, 0, 0, []),
   (1401, 1, .iconst 0, 0, 0, 0, []),
   (1402, 1, .ireturn, 0, 0, 0, []),
   (1403, 1, .aload_n 1, 0, 0, 0, []),
   (1404, 1, .aload_n 0, 0, 0, 0, []),
   (1405, 1, .iload_n 3, 0, 0, 0, []),
   (1406, 1, .iconst 1, 0, 0, 1, []),
   (1407, 1, .iadd, 0, 0, 0, [])],
  [(1408, 1, .iaload, 0, 0, 0, []),
   (1409, 3, .invokevirtual 170, 101, 701, 0, []),
   (1412, 1, .aload_n 2, 0, 0, 0, []),
   (1413, 1, .aload_n 0, 0, 0, 0, []),
   (1414, 1, .iload_n 3, 0, 0, 0, []),
   (1415, 1, .iconst 1, 0, 0, 1, []),
   (1416, 1, .iadd, 0, 0, 0, []),
   (1417, 1, .iaload, 0, 0, 0, []),
   (1418, 3, .invokevirtual 173, 215, 801, 0, []),
   (1421, 3, .if_icmp .eq 64, 1485, 0, 0, [])],
  [(1424, 1, .iconst 0, 0, 0, 0, []),
   (1425, 1, .ireturn, 0, 0, 0, []),
   (1426, 1, .aload_n 1, 0, 0, 0, []),
   (1427, 3, .invokevirtual 174, 102, 700, 0, []),
   (1430, 1, .aload_n 2, 0, 0, 0, []),
   (1431, 3, .invokevirtual 177, 216, 800, 0, []),
   (1434, 3, .if_icmp .eq 51, 1485, 0, 0, []),
   (1437, 1, .iconst 0, 0, 0, 0, []),
   (1438, 1, .ireturn, 0, 0, 0, []),
   (1439, 1, .aload_n 1, 0, 0, 0, [])],
  [(1440, 1, .aload_n 0, 0, 0, 0, []),
   (1441, 1, .iload_n 3, 0, 0, 0, []),
   (1442, 1, .iconst 1, 0, 0, 1, []),
   (1443, 1, .iadd, 0, 0, 0, []),
   (1444, 1, .iaload, 0, 0, 0, []),
   (1445, 3, .invokevirtual 178, 103, 701, 0, []),
   (1448, 1, .aload_n 2, 0, 0, 0, []),
   (1449, 1, .aload_n 0, 0, 0, 0, []),
   (1450, 1, .iload_n 3, 0, 0, 0, []),
   (1451, 1, .iconst 1, 0, 0, 1, []),
   (1452, 1, .iadd, 0, 0, 0, []),
   (1453, 1, .iaload, 0, 0, 0, []),
   (1454, 3, .invokevirtual 181, 217, 801, 0, [])],
  [(1457, 3, .if_icmp .eq 28, 1485, 0, 0, []),
   (1460, 1, .iconst 0, 0, 0, 0, []),
   (1461, 1, .ireturn, 0, 0, 0, []),
   (1462, 1, .aload_n 1, 0, 0, 0, []),
   (1463, 1, .aload_n 0, 0, 0, 0, []),
   (1464, 1, .iload_n 3, 0, 0, 0, []),
   (1465, 1, .iconst 1, 0, 0, 1, []),
   (1466, 1, .iadd, 0, 0, 0, []),
   (1467, 1, .iaload, 0, 0, 0, []),
   (1468, 3, .invokevirtual 182, 104, 701, 0, []),
   (1471, 1, .aload_n 2, 0, 0, 0, [])],
  [(1472, 1, .aload_n 0, 0, 0, 0, []),
   (1473, 1, .iload_n 3, 0, 0, 0, []),
   (1474, 1, .iconst 1, 0, 0, 1, []),
   (1475, 1, .iadd, 0, 0, 0, []),
   (1476, 1, .iaload, 0, 0, 0, []),
   (1477, 3, .invokevirtual 185, 218, 801, 0, []),
   (1480, 3, .if_icmp .eq 5, 1485, 0, 0, []),
   (1483, 1, .iconst 0, 0, 0, 0, []),
   (1484, 1, .ireturn, 0, 0, 0, []),
   (1485, 3, .iinc 3 6, 0, 0, 6, [])],
  [(1488, 3, .goto (-1470), 18, 0, 0, []),
   (1491, 1, .iconst 1, 0, 0, 1, []),
   (1492, 1, .ireturn, 0, 0, 0, [])]]
def aMt : List aMeth := [
  (yX0_init, cX0_init, 2, (none), "ElevenYoghurts$Fridge", 1, 2, cd_0),
  (yX0_copyFrom, cX0_copyFrom, 3, (none), "ElevenYoghurts$Fridge", 2, 1, cd_1),
  (yX0_personAt, cX0_personAt, 2, (some (FieldType.object "ElevenYoghurts$Person")), "ElevenYoghurts$Fridge", 2, 1, cd_2),
  (yX0_thingAt, cX0_thingAt, 2, (some (FieldType.object "ElevenYoghurts$Thing")), "ElevenYoghurts$Fridge", 2, 1, cd_3),
  (yX0_lawOf, cX0_lawOf, 2, (some (FieldType.object "ElevenYoghurts$Law")), "ElevenYoghurts$Fridge", 2, 1, cd_4),
  (yX0_inside, cX0_inside, 3, (some FieldType.int), "ElevenYoghurts$Fridge", 1, 1, cd_5),
  (yX0_insideOf, cX0_insideOf, 4, (some FieldType.int), "ElevenYoghurts$Fridge", 2, 1, cd_6),
  (yX0_appealOf, cX0_appealOf, 2, (some FieldType.int), "ElevenYoghurts$Fridge", 2, 1, cd_7),
  (yX0_pullOf, cX0_pullOf, 5, (some FieldType.int), "ElevenYoghurts$Fridge", 4, 1, cd_8),
  (yX0_wantedBy, cX0_wantedBy, 7, (some FieldType.int), "ElevenYoghurts$Fridge", 3, 1, cd_9),
  (yX0_wantersOf, cX0_wantersOf, 5, (some FieldType.int), "ElevenYoghurts$Fridge", 3, 1, cd_10),
  (yX0_robbedBy, cX0_robbedBy, 4, (some FieldType.int), "ElevenYoghurts$Fridge", 2, 1, cd_11),
  (yX0_firstToBeStolen, cX0_firstToBeStolen, 3, (some FieldType.int), "ElevenYoghurts$Fridge", 1, 1, cd_12),
  (yX0_takenBy, cX0_takenBy, 5, (some FieldType.int), "ElevenYoghurts$Fridge", 3, 1, cd_13),
  (yX0_eat, cX0_eat, 4, (none), "ElevenYoghurts$Fridge", 3, 1, cd_14),
  (yX0_throwOut, cX0_throwOut, 4, (some FieldType.int), "ElevenYoghurts$Fridge", 2, 1, cd_15),
  (yX0_drawnBelow, cX0_drawnBelow, 2, (some FieldType.int), "ElevenYoghurts$Fridge", 2, 1, cd_16),
  (yX0_hourByDraws, cX0_hourByDraws, 4, (some FieldType.int), "ElevenYoghurts$Fridge", 1, 1, cd_17),
  (yX0_hourGoes, cX0_hourGoes, 2, (none), "ElevenYoghurts$Fridge", 1, 1, cd_18),
  (yX1_init, cX1_init, 2, (none), "ElevenYoghurts$Law", 2, 2, cd_19),
  (yX1_clear, cX1_clear, 1, (none), "ElevenYoghurts$Law", 1, 1, cd_20),
  (yX1_hasText, cX1_hasText, 1, (some FieldType.boolean), "ElevenYoghurts$Law", 1, 1, cd_21),
  (yX1_copyFrom, cX1_copyFrom, 2, (none), "ElevenYoghurts$Law", 2, 1, cd_22),
  (yX1_append, cX1_append, 3, (none), "ElevenYoghurts$Law", 3, 1, cd_23),
  (yX1_gives, cX1_gives, 5, (some FieldType.int), "ElevenYoghurts$Law", 4, 1, cd_24),
  (yX1_workedOut, cX1_workedOut, 7, (some FieldType.int), "ElevenYoghurts$Law", 4, 1, cd_25),
  (yX1_named, cX1_named, 4, (some FieldType.int), "ElevenYoghurts$Law", 4, 0, cd_26),
  (yX1_joined, cX1_joined, 3, (some FieldType.int), "ElevenYoghurts$Law", 3, 0, cd_27),
  (yX2_init, cX2_init, 2, (none), "ElevenYoghurts$Person", 2, 2, cd_28),
  (yX2_arrive, cX2_arrive, 2, (none), "ElevenYoghurts$Person", 2, 1, cd_29),
  (yX2_turnInto, cX2_turnInto, 2, (none), "ElevenYoghurts$Person", 2, 1, cd_30),
  (yX2_copyFrom, cX2_copyFrom, 2, (none), "ElevenYoghurts$Person", 2, 1, cd_31),
  (yX2_isOfKind, cX2_isOfKind, 4, (some FieldType.boolean), "ElevenYoghurts$Person", 2, 1, cd_32),
  (yX2_owns, cX2_owns, 2, (some FieldType.boolean), "ElevenYoghurts$Person", 2, 1, cd_33),
  (yX2_urgeFor, cX2_urgeFor, 7, (some FieldType.int), "ElevenYoghurts$Person", 3, 1, cd_34),
  (yX2_hungerForAnHour, cX2_hungerForAnHour, 1, (none), "ElevenYoghurts$Person", 1, 1, cd_35),
  (yX2_loseOne, cX2_loseOne, 1, (none), "ElevenYoghurts$Person", 1, 1, cd_36),
  (yX3_init, cX3_init, 1, (none), "ElevenYoghurts$Reader", 1, 2, cd_37),
  (yX3_faultOf, cX3_faultOf, 4, (some FieldType.int), "ElevenYoghurts$Reader", 4, 1, cd_38),
  (yX3_isChain, cX3_isChain, 4, (some FieldType.boolean), "ElevenYoghurts$Reader", 3, 1, cd_39),
  (yX3_isOperand, cX3_isOperand, 4, (some FieldType.boolean), "ElevenYoghurts$Reader", 2, 1, cd_40),
  (yX3_isDenied, cX3_isDenied, 2, (some FieldType.boolean), "ElevenYoghurts$Reader", 2, 1, cd_41),
  (yX3_isClosed, cX3_isClosed, 2, (some FieldType.boolean), "ElevenYoghurts$Reader", 2, 1, cd_42),
  (yX3_readNumber, cX3_readNumber, 3, (none), "ElevenYoghurts$Reader", 1, 1, cd_43),
  (yX3_levelOf, cX3_levelOf, 1, (some FieldType.int), "ElevenYoghurts$Reader", 1, 0, cd_44),
  (yX4_init, cX4_init, 1, (none), "ElevenYoghurts$Sheet", 1, 2, cd_45),
  (yX4_isMissing, cX4_isMissing, 1, (some FieldType.boolean), "ElevenYoghurts$Sheet", 1, 1, cd_46),
  (yX4_lay, cX4_lay, 3, (none), "ElevenYoghurts$Sheet", 3, 1, cd_47),
  (yX4_holds, cX4_holds, 3, (some FieldType.boolean), "ElevenYoghurts$Sheet", 3, 1, cd_48),
  (yX4_write, cX4_write, 3, (none), "ElevenYoghurts$Sheet", 3, 1, cd_49),
  (yX5_init, cX5_init, 1, (none), "ElevenYoghurts$Thing", 1, 2, cd_50),
  (yX5_arrive, cX5_arrive, 5, (none), "ElevenYoghurts$Thing", 5, 1, cd_51),
  (yX5_copyFrom, cX5_copyFrom, 2, (none), "ElevenYoghurts$Thing", 2, 1, cd_52),
  (yX5_canBeTaken, cX5_canBeTaken, 1, (some FieldType.boolean), "ElevenYoghurts$Thing", 1, 1, cd_53),
  (yX5_leave, cX5_leave, 2, (none), "ElevenYoghurts$Thing", 2, 1, cd_54),
  (yX5_comeBack, cX5_comeBack, 1, (none), "ElevenYoghurts$Thing", 1, 1, cd_55),
  (yX5_grow, cX5_grow, 1, (none), "ElevenYoghurts$Thing", 1, 1, cd_56),
  (yX6_init, cX6_init, 1, (none), "ElevenYoghurts$Voices", 1, 2, cd_57),
  (yX6_isAnswered, cX6_isAnswered, 4, (some FieldType.boolean), "ElevenYoghurts$Voices", 4, 1, cd_58),
  (yX6_say, cX6_say, 8, (some FieldType.int), "ElevenYoghurts$Voices", 5, 1, cd_59),
  (yX6_bearerOf, cX6_bearerOf, 4, (some FieldType.int), "ElevenYoghurts$Voices", 2, 0, cd_60),
  (yX6_begin, cX6_begin, 2, (none), "ElevenYoghurts$Voices", 2, 1, cd_61),
  (yX6_partedIn, cX6_partedIn, 3, (some FieldType.int), "ElevenYoghurts$Voices", 3, 1, cd_62),
  (yX7_init, cX7_init, 2, (none), "ElevenYoghurts", 1, 2, cd_63),
  (yX7_person, cX7_person, 3, (some FieldType.int), "ElevenYoghurts", 2, 1, cd_64),
  (yX7_personIs, cX7_personIs, 4, (some FieldType.int), "ElevenYoghurts", 3, 1, cd_65),
  (yX7_become, cX7_become, 5, (some FieldType.int), "ElevenYoghurts", 3, 1, cd_66),
  (yX7_as, cX7_as, 4, (some FieldType.int), "ElevenYoghurts", 3, 1, cd_67),
  (yX7_feel, cX7_feel, 6, (some FieldType.int), "ElevenYoghurts", 4, 1, cd_68),
  (yX7_thing, cX7_thing, 6, (some FieldType.int), "ElevenYoghurts", 5, 1, cd_69),
  (yX7_thingIs, cX7_thingIs, 4, (some FieldType.int), "ElevenYoghurts", 3, 1, cd_70),
  (yX7_mark, cX7_mark, 6, (some FieldType.int), "ElevenYoghurts", 4, 1, cd_71),
  (yX7_anew, cX7_anew, 3, (some FieldType.int), "ElevenYoghurts", 2, 1, cd_72),
  (yX7_feed, cX7_feed, 5, (some FieldType.int), "ElevenYoghurts", 3, 1, cd_73),
  (yX7_text, cX7_text, 3, (some FieldType.int), "ElevenYoghurts", 2, 1, cd_74),
  (yX7_untell, cX7_untell, 4, (some FieldType.int), "ElevenYoghurts", 2, 1, cd_75),
  (yX7_law, cX7_law, 5, (some FieldType.int), "ElevenYoghurts", 5, 1, cd_76),
  (yX7_urge, cX7_urge, 5, (some FieldType.int), "ElevenYoghurts", 3, 1, cd_77),
  (yX7_guard, cX7_guard, 4, (some FieldType.int), "ElevenYoghurts", 3, 1, cd_78),
  (yX7_comes, cX7_comes, 4, (some FieldType.int), "ElevenYoghurts", 3, 1, cd_79),
  (yX7_hours, cX7_hours, 3, (some FieldType.int), "ElevenYoghurts", 2, 1, cd_80),
  (yX7_friday, cX7_friday, 3, (some FieldType.int), "ElevenYoghurts", 2, 1, cd_81),
  (yX7_seed, cX7_seed, 3, (some FieldType.int), "ElevenYoghurts", 2, 1, cd_82),
  (yX7_wants, cX7_wants, 7, (some FieldType.int), "ElevenYoghurts", 4, 1, cd_83),
  (yX7_trap, cX7_trap, 3, (some FieldType.int), "ElevenYoghurts", 3, 1, cd_84),
  (yX7_safest, cX7_safest, 7, (some FieldType.int), "ElevenYoghurts", 2, 1, cd_85),
  (yX7_lock, cX7_lock, 3, (some FieldType.int), "ElevenYoghurts", 2, 1, cd_86),
  (yX7_round, cX7_round, 5, (some FieldType.int), "ElevenYoghurts", 3, 1, cd_87),
  (yX7_odds, cX7_odds, 6, (some FieldType.int), "ElevenYoghurts", 3, 1, cd_88),
  (yX7_who, cX7_who, 5, (some FieldType.int), "ElevenYoghurts", 2, 1, cd_89),
  (yX7_lost, cX7_lost, 4, (some FieldType.int), "ElevenYoghurts", 3, 1, cd_90),
  (yX7_oldest, cX7_oldest, 4, (some FieldType.int), "ElevenYoghurts", 1, 1, cd_91),
  (yX7_voice, cX7_voice, 5, (some FieldType.int), "ElevenYoghurts", 4, 1, cd_92),
  (yX7_body, cX7_body, 2, (some FieldType.int), "ElevenYoghurts", 2, 1, cd_93),
  (yX7_sheet, cX7_sheet, 5, (some FieldType.int), "ElevenYoghurts", 4, 1, cd_94),
  (yX7_put, cX7_put, 5, (some FieldType.int), "ElevenYoghurts", 4, 1, cd_95),
  (yX7_move, cX7_move, 8, (some FieldType.int), "ElevenYoghurts", 6, 1, cd_96),
  (yX7_labels, cX7_labels, 4, (some FieldType.int), "ElevenYoghurts", 2, 1, cd_97),
  (yX7_judge, cX7_judge, 4, (some FieldType.int), "ElevenYoghurts", 2, 1, cd_98),
  (yX7_image, cX7_image, 1, (some FieldType.int), "ElevenYoghurts", 1, 1, cd_99),
  (yX7_restore, cX7_restore, 1, (some FieldType.int), "ElevenYoghurts", 1, 1, cd_100),
  (yX7_tell, cX7_tell, 2, (some FieldType.int), "ElevenYoghurts", 2, 1, cd_101),
  (yX7_check, cX7_check, 4, (some FieldType.int), "ElevenYoghurts", 1, 1, cd_102),
  (yX7_count, cX7_count, 2, (some FieldType.int), "ElevenYoghurts", 2, 1, cd_103),
  (yX7_told, cX7_told, 2, (some FieldType.int), "ElevenYoghurts", 2, 1, cd_104),
  (yX7_refuse, cX7_refuse, 3, (some FieldType.int), "ElevenYoghurts", 2, 1, cd_105),
  (yX7_isIn, cX7_isIn, 3, (some FieldType.boolean), "ElevenYoghurts", 3, 0, cd_106),
  (yX7_isUse, cX7_isUse, 1, (some FieldType.boolean), "ElevenYoghurts", 1, 0, cd_107),
  (yX7_isKindAndNumber, cX7_isKindAndNumber, 1, (some FieldType.boolean), "ElevenYoghurts", 1, 0, cd_108),
  (yX7_canFeel, cX7_canFeel, 4, (some FieldType.boolean), "ElevenYoghurts", 4, 1, cd_109),
  (yX7_sheetAt, cX7_sheetAt, 2, (some (FieldType.object "ElevenYoghurts$Sheet")), "ElevenYoghurts", 2, 1, cd_110),
  (yX7_othersWanting, cX7_othersWanting, 4, (some FieldType.int), "ElevenYoghurts", 3, 1, cd_111),
  (yX7_locksForPeace, cX7_locksForPeace, 4, (some FieldType.int), "ElevenYoghurts", 1, 1, cd_112),
  (yX7_greatestCommon, cX7_greatestCommon, 3, (some FieldType.int), "ElevenYoghurts", 2, 0, cd_113),
  (yX7_wouldTake, cX7_wouldTake, 5, (some FieldType.boolean), "ElevenYoghurts", 3, 1, cd_114),
  (yX8_init, cX8_init, 1, (none), "ElevenYoghurtsModel", 1, 2, cd_115),
  (yX8_error, cX8_error, 2, (some FieldType.int), "ElevenYoghurtsModel", 2, 1, cd_116),
  (yX8_in, cX8_in, 3, (some FieldType.boolean), "ElevenYoghurtsModel", 3, 0, cd_117),
  (yX8_held, cX8_held, 3, (some FieldType.int), "ElevenYoghurtsModel", 3, 0, cd_118),
  (yX8_carry, cX8_carry, 3, (none), "ElevenYoghurtsModel", 2, 0, cd_119),
  (yX8_layDown, cX8_layDown, 2, (none), "ElevenYoghurtsModel", 1, 1, cd_120),
  (yX8_layBack, cX8_layBack, 2, (none), "ElevenYoghurtsModel", 1, 1, cd_121),
  (yX8_isPerson, cX8_isPerson, 2, (some FieldType.boolean), "ElevenYoghurtsModel", 2, 1, cd_122),
  (yX8_isThing, cX8_isThing, 2, (some FieldType.boolean), "ElevenYoghurtsModel", 2, 1, cd_123),
  (yX8_its, cX8_its, 3, (some FieldType.int), "ElevenYoghurtsModel", 3, 1, cd_124),
  (yX8_lays1, cX8_lays1, 4, (none), "ElevenYoghurtsModel", 4, 1, cd_125),
  (yX8_of, cX8_of, 3, (some FieldType.int), "ElevenYoghurtsModel", 3, 1, cd_126),
  (yX8_lays2, cX8_lays2, 4, (none), "ElevenYoghurtsModel", 4, 1, cd_127),
  (yX8_change1, cX8_change1, 4, (some FieldType.int), "ElevenYoghurtsModel", 3, 1, cd_128),
  (yX8_isThere, cX8_isThere, 2, (some FieldType.boolean), "ElevenYoghurtsModel", 2, 1, cd_129),
  (yX8_howMany, cX8_howMany, 3, (some FieldType.int), "ElevenYoghurtsModel", 1, 1, cd_130),
  (yX8_feed, cX8_feed, 5, (some FieldType.int), "ElevenYoghurtsModel", 3, 1, cd_131),
  (yX8_look, cX8_look, 1, (some FieldType.int), "ElevenYoghurtsModel", 1, 1, cd_132),
  (yX8_isName, cX8_isName, 2, (some FieldType.boolean), "ElevenYoghurtsModel", 2, 1, cd_133),
  (yX8_step1, cX8_step1, 3, (none), "ElevenYoghurtsModel", 3, 1, cd_134),
  (yX8_whole, cX8_whole, 1, (some FieldType.boolean), "ElevenYoghurtsModel", 1, 1, cd_135),
  (yX8_both, cX8_both, 1, (some FieldType.boolean), "ElevenYoghurtsModel", 1, 1, cd_136),
  (yX8_compared, cX8_compared, 2, (some FieldType.boolean), "ElevenYoghurtsModel", 1, 1, cd_137),
  (yX8_sum, cX8_sum, 2, (some FieldType.boolean), "ElevenYoghurtsModel", 1, 1, cd_138),
  (yX8_product, cX8_product, 2, (some FieldType.boolean), "ElevenYoghurtsModel", 1, 1, cd_139),
  (yX8_opens, cX8_opens, 1, (some FieldType.boolean), "ElevenYoghurtsModel", 1, 1, cd_140),
  (yX8_one, cX8_one, 4, (some FieldType.boolean), "ElevenYoghurtsModel", 1, 1, cd_141),
  (yX8_hasText, cX8_hasText, 2, (some FieldType.boolean), "ElevenYoghurtsModel", 2, 1, cd_142),
  (yX8_text, cX8_text, 5, (some FieldType.int), "ElevenYoghurtsModel", 2, 1, cd_143),
  (yX8_untell, cX8_untell, 3, (some FieldType.int), "ElevenYoghurtsModel", 2, 1, cd_144),
  (yX8_joined, cX8_joined, 3, (some FieldType.int), "ElevenYoghurtsModel", 3, 0, cd_145),
  (yX8_worked, cX8_worked, 7, (some FieldType.int), "ElevenYoghurtsModel", 2, 1, cd_146),
  (yX8_appealTold, cX8_appealTold, 4, (some FieldType.int), "ElevenYoghurtsModel", 4, 1, cd_147),
  (yX8_guardTold, cX8_guardTold, 4, (some FieldType.int), "ElevenYoghurtsModel", 4, 1, cd_148),
  (yX8_appeal, cX8_appeal, 2, (some FieldType.int), "ElevenYoghurtsModel", 2, 1, cd_149),
  (yX8_guardOf, cX8_guardOf, 3, (some FieldType.int), "ElevenYoghurtsModel", 3, 1, cd_150),
  (yX8_asPerson, cX8_asPerson, 3, (some FieldType.int), "ElevenYoghurtsModel", 3, 1, cd_151),
  (yX8_asTaker, cX8_asTaker, 5, (some FieldType.int), "ElevenYoghurtsModel", 4, 1, cd_152),
  (yX8_asAvenger, cX8_asAvenger, 5, (some FieldType.int), "ElevenYoghurtsModel", 4, 1, cd_153),
  (yX8_urgeOf, cX8_urgeOf, 4, (some FieldType.int), "ElevenYoghurtsModel", 3, 1, cd_154),
  (yX8_drawn, cX8_drawn, 4, (some FieldType.int), "ElevenYoghurtsModel", 4, 1, cd_155),
  (yX8_canGo, cX8_canGo, 2, (some FieldType.boolean), "ElevenYoghurtsModel", 2, 1, cd_156),
  (yX8_wanted, cX8_wanted, 7, (some FieldType.int), "ElevenYoghurtsModel", 3, 1, cd_157),
  (yX8_more, cX8_more, 3, (none), "ElevenYoghurtsModel", 3, 1, cd_158),
  (yX8_comesNow, cX8_comesNow, 5, (some FieldType.int), "ElevenYoghurtsModel", 3, 1, cd_159),
  (yX8_hourGoes, cX8_hourGoes, 2, (none), "ElevenYoghurtsModel", 1, 1, cd_160),
  (yX8_draw, cX8_draw, 1, (some FieldType.int), "ElevenYoghurtsModel", 1, 1, cd_161),
  (yX8_drawnHour, cX8_drawnHour, 3, (some FieldType.int), "ElevenYoghurtsModel", 1, 1, cd_162),
  (yX8_isKind, cX8_isKind, 1, (some FieldType.boolean), "ElevenYoghurtsModel", 1, 0, cd_163),
  (yX8_person, cX8_person, 3, (some FieldType.int), "ElevenYoghurtsModel", 2, 1, cd_164),
  (yX8_hisThings, cX8_hisThings, 4, (some FieldType.int), "ElevenYoghurtsModel", 2, 1, cd_165),
  (yX8_personIs, cX8_personIs, 3, (some FieldType.int), "ElevenYoghurtsModel", 3, 1, cd_166),
  (yX8_become, cX8_become, 3, (some FieldType.int), "ElevenYoghurtsModel", 3, 1, cd_167),
  (yX8_as, cX8_as, 4, (some FieldType.int), "ElevenYoghurtsModel", 3, 1, cd_168),
  (yX8_feel, cX8_feel, 5, (some FieldType.int), "ElevenYoghurtsModel", 4, 1, cd_169),
  (yX8_greatest, cX8_greatest, 1, (some FieldType.int), "ElevenYoghurtsModel", 1, 0, cd_170),
  (yX8_thing, cX8_thing, 6, (some FieldType.int), "ElevenYoghurtsModel", 5, 1, cd_171),
  (yX8_thingIs, cX8_thingIs, 3, (some FieldType.int), "ElevenYoghurtsModel", 3, 1, cd_172),
  (yX8_mark, cX8_mark, 4, (some FieldType.int), "ElevenYoghurtsModel", 4, 1, cd_173),
  (yX8_anew, cX8_anew, 2, (some FieldType.int), "ElevenYoghurtsModel", 2, 1, cd_174),
  (yX8_law, cX8_law, 5, (some FieldType.int), "ElevenYoghurtsModel", 5, 1, cd_175),
  (yX8_urge, cX8_urge, 3, (some FieldType.int), "ElevenYoghurtsModel", 3, 1, cd_176),
  (yX8_guard, cX8_guard, 3, (some FieldType.int), "ElevenYoghurtsModel", 3, 1, cd_177),
  (yX8_comes, cX8_comes, 3, (some FieldType.int), "ElevenYoghurtsModel", 3, 1, cd_178),
  (yX8_hours, cX8_hours, 4, (some FieldType.int), "ElevenYoghurtsModel", 2, 1, cd_179),
  (yX8_friday, cX8_friday, 4, (some FieldType.int), "ElevenYoghurtsModel", 2, 1, cd_180),
  (yX8_seed, cX8_seed, 2, (some FieldType.int), "ElevenYoghurtsModel", 2, 1, cd_181),
  (yX8_wants, cX8_wants, 5, (some FieldType.int), "ElevenYoghurtsModel", 4, 1, cd_182),
  (yX8_trap, cX8_trap, 5, (some FieldType.int), "ElevenYoghurtsModel", 3, 1, cd_183),
  (yX8_othersWant, cX8_othersWant, 5, (some FieldType.int), "ElevenYoghurtsModel", 2, 1, cd_184),
  (yX8_safest, cX8_safest, 8, (some FieldType.int), "ElevenYoghurtsModel", 2, 1, cd_185),
  (yX8_isPeace, cX8_isPeace, 8, (some FieldType.boolean), "ElevenYoghurtsModel", 2, 1, cd_186),
  (yX8_bitsOf, cX8_bitsOf, 3, (some FieldType.int), "ElevenYoghurtsModel", 1, 0, cd_187),
  (yX8_lock, cX8_lock, 6, (some FieldType.int), "ElevenYoghurtsModel", 2, 1, cd_188),
  (yX8_robs, cX8_robs, 3, (some FieldType.int), "ElevenYoghurtsModel", 2, 1, cd_189),
  (yX8_round, cX8_round, 5, (some FieldType.int), "ElevenYoghurtsModel", 3, 1, cd_190),
  (yX8_divisor, cX8_divisor, 5, (some FieldType.int), "ElevenYoghurtsModel", 2, 0, cd_191),
  (yX8_odds, cX8_odds, 6, (some FieldType.int), "ElevenYoghurtsModel", 3, 1, cd_192),
  (yX8_who, cX8_who, 8, (some FieldType.int), "ElevenYoghurtsModel", 2, 1, cd_193),
  (yX8_lost, cX8_lost, 5, (some FieldType.int), "ElevenYoghurtsModel", 3, 1, cd_194),
  (yX8_oldest, cX8_oldest, 3, (some FieldType.int), "ElevenYoghurtsModel", 1, 1, cd_195),
  (yX8_begins, cX8_begins, 2, (none), "ElevenYoghurtsModel", 2, 1, cd_196),
  (yX8_above, cX8_above, 1, (some FieldType.int), "ElevenYoghurtsModel", 1, 0, cd_197),
  (yX8_kindNow, cX8_kindNow, 1, (some FieldType.int), "ElevenYoghurtsModel", 1, 1, cd_198),
  (yX8_mNow, cX8_mNow, 1, (some FieldType.int), "ElevenYoghurtsModel", 1, 1, cd_199),
  (yX8_sniffsAs, cX8_sniffsAs, 3, (some FieldType.int), "ElevenYoghurtsModel", 3, 1, cd_200),
  (yX8_marksAs, cX8_marksAs, 3, (some FieldType.int), "ElevenYoghurtsModel", 3, 1, cd_201),
  (yX8_swearsAs, cX8_swearsAs, 3, (some FieldType.int), "ElevenYoghurtsModel", 3, 1, cd_202),
  (yX8_partsAs, cX8_partsAs, 5, (some FieldType.int), "ElevenYoghurtsModel", 3, 1, cd_203),
  (yX8_voice, cX8_voice, 6, (some FieldType.int), "ElevenYoghurtsModel", 4, 1, cd_204),
  (yX8_body, cX8_body, 2, (some FieldType.int), "ElevenYoghurtsModel", 2, 1, cd_205),
  (yX8_isSheet, cX8_isSheet, 1, (some FieldType.boolean), "ElevenYoghurtsModel", 1, 0, cd_206),
  (yX8_sheet, cX8_sheet, 5, (some FieldType.int), "ElevenYoghurtsModel", 4, 1, cd_207),
  (yX8_put, cX8_put, 5, (some FieldType.int), "ElevenYoghurtsModel", 4, 1, cd_208),
  (yX8_move, cX8_move, 7, (some FieldType.int), "ElevenYoghurtsModel", 6, 1, cd_209),
  (yX8_lacks, cX8_lacks, 2, (some FieldType.int), "ElevenYoghurtsModel", 2, 1, cd_210),
  (yX8_labels, cX8_labels, 4, (some FieldType.int), "ElevenYoghurtsModel", 2, 1, cd_211),
  (yX8_judge, cX8_judge, 6, (some FieldType.int), "ElevenYoghurtsModel", 2, 1, cd_212),
  (yX8_image, cX8_image, 1, (some FieldType.int), "ElevenYoghurtsModel", 1, 1, cd_213),
  (yX8_restore, cX8_restore, 1, (some FieldType.int), "ElevenYoghurtsModel", 1, 1, cd_214),
  (yX8_tell, cX8_tell, 2, (some FieldType.int), "ElevenYoghurtsModel", 2, 1, cd_215),
  (yX8_check, cX8_check, 3, (some FieldType.int), "ElevenYoghurtsModel", 1, 1, cd_216),
  (yX8_count, cX8_count, 2, (some FieldType.int), "ElevenYoghurtsModel", 2, 1, cd_217),
  (yX8_told, cX8_told, 2, (some FieldType.int), "ElevenYoghurtsModel", 2, 1, cd_218),
  (yJ6_bitCount_0f7a4, cJ6_bitCount_0f7a4, 1, (some FieldType.int), "java/lang/Integer", 1, 0, cd_219),
  (yJ7_fill_53178, cJ7_fill_53178, 4, (none), "java/util/Arrays", 2, 0, cd_220),
  (yJ0_indexOf_0f7a4, cJ0_indexOf_0f7a4, 2, (some FieldType.int), "java/lang/String", 2, 1, cd_221),
  (yJ0_indexOf_7cf53, cJ0_indexOf_7cf53, 3, (some FieldType.int), "java/lang/String", 3, 1, cd_222),
  (yJ0_isLatin1_aae02, cJ0_isLatin1_aae02, 1, (some FieldType.boolean), "java/lang/String", 1, 1, cd_223),
  (yJ0_length_8abf5, cJ0_length_8abf5, 1, (some FieldType.int), "java/lang/String", 1, 1, cd_224),
  (yJ0_coder_7d493, cJ0_coder_7d493, 1, (some FieldType.byte), "java/lang/String", 1, 1, cd_225),
  (yJ1_indexOf_4cfef, cJ1_indexOf_4cfef, 4, (some FieldType.int), "java/lang/StringLatin1", 4, 0, cd_226),
  (yJ1_canEncode_9a6ad, cJ1_canEncode_9a6ad, 1, (some FieldType.boolean), "java/lang/StringLatin1", 1, 0, cd_227),
  (yJ1_indexOfChar_4cfef, cJ1_indexOfChar_4cfef, 6, (some FieldType.int), "java/lang/StringLatin1", 4, 0, cd_228)]
end
section
/-! one step, and all steps: 'aGo' is the fixpoint of 'aStep' -/
section AC
variable {r : Option Value × aH}
theorem aIte_c {c : Prop} [Decidable c] {a b : aRs} {an bn : Nat → aRs} (h : (if c then a else b) = some r) (ha : a = some r → ∃ n, an n = some r) (hb : b = some r → ∃ n, bn n = some r) : ∃ n, (if c then an n else bn n) = some r := by
  by_cases hc : c
  · rw [if_pos hc] at h; simp only [if_pos hc]; exact ha h
  · rw [if_neg hc] at h; simp only [if_neg hc]; exact hb h
theorem aNone_c {f : Nat → aRs} (h : (none : aRs) = some r) : ∃ n, f n = some r := by cases h
theorem aLoads_c {k : List Value → aRs} {kn : Nat → List Value → aRs} (K : ∀ st r, k st = some r → ∃ n : Nat, kn n st = some r) {ls : aLs} {i : Nat} {st : List Value} :
    (aILoad k ls i st = some r → ∃ n, aILoad (kn n) ls i st = some r) ∧ (aRLoad k ls i st = some r → ∃ n, aRLoad (kn n) ls i st = some r) ∧ (aLLoad k ls i st = some r → ∃ n, aLLoad (kn n) ls i st = some r) := by
  refine ⟨fun h => ?_, fun h => ?_, fun h => ?_⟩
  · unfold aILoad at h ⊢; split at h
    · exact K _ _ h
    · cases h
  · unfold aRLoad at h ⊢; split at h
    · exact K _ _ h
    · exact K _ _ h
    · cases h
  · unfold aLLoad at h ⊢; split at h
    · exact K _ _ h
    · cases h
theorem aStores_c {k : aLs → List Value → aRs} {kn : Nat → aLs → List Value → aRs} (K : ∀ ls st r, k ls st = some r → ∃ n : Nat, kn n ls st = some r) {ls : aLs} {i : Nat} {st : List Value} :
    (aIStore k ls i st = some r → ∃ n, aIStore (kn n) ls i st = some r) ∧ (aRStore k ls i st = some r → ∃ n, aRStore (kn n) ls i st = some r) := by
  refine ⟨fun h => ?_, fun h => ?_⟩
  · unfold aIStore at h ⊢; split at h
    · split at h
      · exact K _ _ _ h
      · cases h
    · cases h
  · unfold aRStore at h ⊢; split at h
    · split at h
      · exact K _ _ _ h
      · cases h
    · split at h
      · exact K _ _ _ h
      · cases h
    · cases h
theorem aOps_c {k : List Value → aRs} {kn : Nat → List Value → aRs} (K : ∀ st r, k st = some r → ∃ n : Nat, kn n st = some r) {st : List Value} :
    (∀ f, aBin k f st = some r → ∃ n, aBin (kn n) f st = some r) ∧ (∀ f, aBinL k f st = some r → ∃ n, aBinL (kn n) f st = some r) ∧ (∀ f, aShL k f st = some r → ∃ n, aShL (kn n) f st = some r) ∧ (∀ f, aUn k f st = some r → ∃ n, aUn (kn n) f st = some r)
    ∧ (aMax k st = some r → ∃ n, aMax (kn n) st = some r) ∧ (aMin k st = some r → ∃ n, aMin (kn n) st = some r) ∧ (∀ y, aGetS k y st = some r → ∃ n, aGetS (kn n) y st = some r) ∧ (aPop k st = some r → ∃ n, aPop (kn n) st = some r) := by
  refine ⟨fun f h => ?_, fun f h => ?_, fun f h => ?_, fun f h => ?_, fun h => ?_, fun h => ?_, fun y h => ?_, fun h => ?_⟩
  · unfold aBin at h ⊢; split at h
    · exact K _ _ h
    · cases h
  · unfold aBinL at h ⊢; split at h
    · exact K _ _ h
    · cases h
  · unfold aShL at h ⊢; split at h
    · exact K _ _ h
    · cases h
  · unfold aUn at h ⊢; split at h
    · exact K _ _ h
    · cases h
  · unfold aMax at h ⊢; split at h
    · exact aIte_c h (K _ _) aNone_c
    · cases h
  · unfold aMin at h ⊢; split at h
    · exact aIte_c h (K _ _) aNone_c
    · cases h
  · unfold aGetS at h ⊢; split at h
    · exact aIte_c h (fun h => aIte_c h (K _ _) (K _ _)) aNone_c
    · cases h
  · unfold aPop at h ⊢; split at h
    · exact aIte_c h (K _ _) aNone_c
    · cases h
theorem aIfs_c {k : Nat → List Value → aRs} {kn : Nat → Nat → List Value → aRs} (K : ∀ p st r, k p st = some r → ∃ n : Nat, kn n p st = some r) {t m : Nat} {st : List Value} :
    (∀ c, aIf k c t m st = some r → ∃ n, aIf (kn n) c t m st = some r) ∧ (∀ c, aIc k c t m st = some r → ∃ n, aIc (kn n) c t m st = some r) := by
  refine ⟨fun c h => ?_, fun c h => ?_⟩
  · unfold aIf at h ⊢; split at h
    · cases c <;> exact aIte_c h (K _ _ _) (K _ _ _)
    · cases h
  · unfold aIc at h ⊢; split at h
    · cases c <;> exact aIte_c h (K _ _ _) (K _ _ _)
    · cases h
theorem aReads_c {k : List Value → aRs} {kn : Nat → List Value → aRs} (K : ∀ st r, k st = some r → ∃ n : Nat, kn n st = some r) {H : aH} {st : List Value} {scr : aSc} :
    (∀ ci f, aGet k ci f H st = some r → ∃ n, aGet (kn n) ci f H st = some r) ∧ (aIald k scr H st = some r → ∃ n, aIald (kn n) scr H st = some r) ∧ (aBald k H st = some r → ∃ n, aBald (kn n) H st = some r) ∧ (aAald k H st = some r → ∃ n, aAald (kn n) H st = some r) ∧ (aAlen k scr H st = some r → ∃ n, aAlen (kn n) scr H st = some r) := by
  refine ⟨fun ci f h => ?_, fun h => ?_, fun h => ?_, fun h => ?_, fun h => ?_⟩
  · unfold aGet at h ⊢; split at h
    · refine aIte_c h (fun h => ?_) aNone_c
      split at h
      · exact K _ _ h
      · exact K _ _ h
      · split at h <;> exact K _ _ h
      · cases h
    · cases h
  · unfold aIald at h ⊢; split at h
    · split at h
      · exact aIte_c h (fun h => aIte_c h aNone_c (K _ _)) aNone_c
      · split at h
        · exact aIte_c h aNone_c (K _ _)
        · cases h
    · cases h
  · unfold aBald at h ⊢; split at h
    · split at h
      · exact aIte_c h (fun h => aIte_c h aNone_c (K _ _)) aNone_c
      · exact aIte_c h (fun h => aIte_c h aNone_c (K _ _)) aNone_c
    · cases h
  · unfold aAald at h ⊢; split at h
    · split at h
      · refine aIte_c h (fun h => aIte_c h aNone_c fun h => ?_) aNone_c
        split at h <;> exact K _ _ h
      · cases h
    · cases h
  · unfold aAlen at h ⊢; split at h
    · split at h
      · exact aIte_c h (K _ _) aNone_c
      · split at h
        · exact K _ _ h
        · exact aIte_c h (K _ _) aNone_c
    · cases h
theorem aWrites_c {k : List Value → aH → aRs} {kn : Nat → List Value → aH → aRs} (K : ∀ st H r, k st H = some r → ∃ n : Nat, kn n st H = some r) {H : aH} {st : List Value} :
    (∀ ci f, aPut k ci f H st = some r → ∃ n, aPut (kn n) ci f H st = some r) ∧ (aIast k H st = some r → ∃ n, aIast (kn n) H st = some r) ∧ (aBast k H st = some r → ∃ n, aBast (kn n) H st = some r) ∧ (aAast k H st = some r → ∃ n, aAast (kn n) H st = some r) ∧ (∀ kd, aNewA k kd H st = some r → ∃ n, aNewA (kn n) kd H st = some r) ∧ (aCopy k H st = some r → ∃ n, aCopy (kn n) H st = some r)
    ∧ (∀ cl x y, aCallI k cl x y H st = some r → ∃ n, aCallI (kn n) cl x y H st = some r) := by
  refine ⟨fun ci f h => ?_, fun h => ?_, fun h => ?_, fun h => ?_, fun kd h => ?_, fun h => ?_, fun cl x y h => ?_⟩
  · unfold aPut at h ⊢; split at h
    · refine aIte_c h (fun h => ?_) aNone_c
      split at h
      · exact K _ _ _ h
      · exact aIte_c h (K _ _ _) aNone_c
      · cases h
    · refine aIte_c h (fun h => ?_) aNone_c
      split at h
      · exact aIte_c h (K _ _ _) aNone_c
      · cases h
    · cases h
  · unfold aIast at h ⊢; split at h
    · split at h
      · exact aIte_c h (fun h => aIte_c h aNone_c (K _ _ _)) aNone_c
      · cases h
    · cases h
  · unfold aBast at h ⊢; split at h
    · split at h
      · exact aIte_c h (fun h => aIte_c h aNone_c (K _ _ _)) aNone_c
      · cases h
    · cases h
  · unfold aAast at h ⊢; split at h
    · split at h
      · exact aIte_c h (fun h => aIte_c h aNone_c fun h => aIte_c h (K _ _ _) aNone_c) aNone_c
      · cases h
    · cases h
  · unfold aNewA at h ⊢; split at h
    · exact aIte_c h aNone_c (K _ _ _)
    · cases h
  · unfold aCopy at h ⊢; split at h
    · split at h
      · refine aIte_c h (K _ _ _) aNone_c
      · cases h
    · cases h
  · unfold aCallI at h ⊢
    refine aIte_c h (fun h => ?_) aNone_c
    unfold aRet at h ⊢
    split at h
    · exact K _ _ _ h
    · exact K _ _ _ h
    · cases h
theorem aCallV_c {k : List Value → aH → aRs} {kn : Nat → List Value → aH → aRs} (K : ∀ st H r, k st H = some r → ∃ n : Nat, kn n st H = some r) {H : aH} {st : List Value} {cl : Nat → List Value → aH → aRs} {x m ci : Nat} :
    (aCallV k cl x m ci H st = some r → ∃ n, aCallV (kn n) cl x m ci H st = some r) ∧ (aCallC k cl x m H st = some r → ∃ n, aCallC (kn n) cl x m H st = some r) := by
  refine ⟨fun h => ?_, fun h => ?_⟩
  · unfold aCallV at h ⊢; split at h
    · exact aIte_c h ((aWrites_c K).2.2.2.2.2.2 _ _ _) aNone_c
    · cases h
  · unfold aCallC at h ⊢; split at h
    · exact (aWrites_c K).2.2.2.2.2.2 _ _ _ h
    · cases h
theorem aSw_c {k : Nat → aRs} {kn : Nat → Nat → aRs} (K : ∀ p r, k p = some r → ∃ n : Nat, kn n p = some r) {d : Nat} {x : Int32} : ∀ (sw : List (Int32 × Nat)), aSw sw d x k = some r → ∃ n, aSw sw d x (kn n) = some r
  | [], h => K _ _ h
  | (c, t) :: l, h => aIte_c (c := x = c) h (K _ _) (aSw_c K l)
set_option maxHeartbeats 4000000 in
theorem aStep_c {cl : Nat → List Value → aH → aRs} {scr : aSc} {rt : Nat} {k : Nat → aLs → List Value → aH → aRs} {kn : Nat → Nat → aLs → List Value → aH → aRs} (K : ∀ p ls st H r, k p ls st H = some r → ∃ n : Nat, kn n p ls st H = some r) {q : aCI} {ls : aLs} {st : List Value} {H : aH}
    (h : aStep cl scr rt k q ls st H = some r) : ∃ n, aStep cl scr rt (kn n) q ls st H = some r := by
  obtain ⟨pc, len, i, x, y, c, sw⟩ := q
  cases i <;> simp only [aStep] at h ⊢
  all_goals first
    | exact aNone_c h
    | exact K _ _ _ _ _ h
    | exact (aLoads_c (fun _ _ => K _ _ _ _ _)).1 h
    | exact (aLoads_c (fun _ _ => K _ _ _ _ _)).2.1 h
    | exact (aLoads_c (fun _ _ => K _ _ _ _ _)).2.2 h
    | exact (aStores_c (fun _ _ _ => K _ _ _ _ _)).1 h
    | exact (aStores_c (fun _ _ _ => K _ _ _ _ _)).2 h
    | exact (aOps_c (fun _ _ => K _ _ _ _ _)).1 _ h
    | exact (aOps_c (fun _ _ => K _ _ _ _ _)).2.1 _ h
    | exact (aOps_c (fun _ _ => K _ _ _ _ _)).2.2.1 _ h
    | exact (aOps_c (fun _ _ => K _ _ _ _ _)).2.2.2.1 _ h
    | exact (aIfs_c (fun _ _ _ => K _ _ _ _ _)).1 _ h
    | exact (aIfs_c (fun _ _ _ => K _ _ _ _ _)).2 _ h
    | exact (aReads_c (scr := scr) (fun _ _ => K _ _ _ _ _)).2.1 h
    | exact (aReads_c (scr := scr) (fun _ _ => K _ _ _ _ _)).2.2.1 h
    | exact (aReads_c (scr := scr) (fun _ _ => K _ _ _ _ _)).2.2.2.1 h
    | exact (aReads_c (scr := scr) (fun _ _ => K _ _ _ _ _)).2.2.2.2 h
    | exact (aWrites_c (fun _ _ _ => K _ _ _ _ _)).1 _ _ h
    | exact (aWrites_c (fun _ _ _ => K _ _ _ _ _)).2.1 h
    | exact (aWrites_c (fun _ _ _ => K _ _ _ _ _)).2.2.1 h
    | exact (aWrites_c (fun _ _ _ => K _ _ _ _ _)).2.2.2.1 h
    | exact (aWrites_c (fun _ _ _ => K _ _ _ _ _)).2.2.2.2.1 _ h
    | skip
  case idiv => unfold aDiv at h ⊢; split at h <;> first | exact aIte_c h aNone_c (K _ _ _ _ _) | cases h
  case irem => unfold aRem at h ⊢; split at h <;> first | exact aIte_c h aNone_c (K _ _ _ _ _) | cases h
  case i2l => unfold aI2l at h ⊢; split at h <;> first | exact K _ _ _ _ _ h | cases h
  case l2i => unfold aL2i at h ⊢; split at h <;> first | exact K _ _ _ _ _ h | cases h
  case getfield => exact aIte_c h ((aOps_c (fun _ _ => K _ _ _ _ _)).2.2.2.2.2.2.1 _) ((aReads_c (scr := scr) (fun _ _ => K _ _ _ _ _)).1 _ _)
  case getstatic => exact aIte_c h (K _ _ _ _ _) (K _ _ _ _ _)
  case new => exact aIte_c h aNone_c (K _ _ _ _ _)
  case ldc => exact aIte_c h (K _ _ _ _ _) (K _ _ _ _ _)
  case ifnull => unfold aNul at h ⊢; split at h <;> first | exact K _ _ _ _ _ h | cases h
  case ifnonnull => unfold aNul at h ⊢; split at h <;> first | exact K _ _ _ _ _ h | cases h
  case tableswitch => unfold aSwS at h ⊢; split at h <;> first | exact aSw_c (fun _ _ => K _ _ _ _ _) _ h | cases h
  case lookupswitch => unfold aSwS at h ⊢; split at h <;> first | exact aSw_c (fun _ _ => K _ _ _ _ _) _ h | cases h
  case iinc =>
    unfold aInc at h ⊢; split at h
    · split at h
      · exact K _ _ _ _ _ h
      · cases h
    · cases h
  case dup => unfold aDup at h ⊢; split at h <;> first | exact aIte_c h (K _ _ _ _ _) aNone_c | cases h
  case dup2 => unfold aDup2 at h ⊢; split at h <;> first | exact aIte_c h (K _ _ _ _ _) aNone_c | cases h
  case pop => unfold aPop1 at h ⊢; split at h <;> first | exact aIte_c h (K _ _ _ _ _) aNone_c | cases h
  case ireturn => exact ⟨0, h⟩
  case areturn => exact ⟨0, h⟩
  case return_ => exact ⟨0, h⟩
  case invokevirtual => exact aIte_c h (aCallV_c (fun _ _ _ => K _ _ _ _ _)).1 aNone_c
  case invokestatic => exact aIte_c h (aOps_c (fun _ _ => K _ _ _ _ _)).2.2.2.2.1 fun h => aIte_c h (aOps_c (fun _ _ => K _ _ _ _ _)).2.2.2.2.2.1 fun h => aIte_c h (aWrites_c (fun _ _ _ => K _ _ _ _ _)).2.2.2.2.2.1 fun h => aIte_c h ((aWrites_c (fun _ _ _ => K _ _ _ _ _)).2.2.2.2.2.2 _ _ _) aNone_c
  case invokespecial => exact aIte_c h (aOps_c (fun _ _ => K _ _ _ _ _)).2.2.2.2.2.2.2 fun h => aIte_c h (aCallV_c (ci := 0) (fun _ _ _ => K _ _ _ _ _)).2 aNone_c
end AC
theorem aRun_m {cl : Nat → List Value → aH → aRs} {scr : aSc} {cd : aCd} {rt : Nat} {r : Option Value × aH} : ∀ (n : Nat) {pc : Nat} {ls : aLs} {st : List Value} {H : aH}, aRun cl scr cd rt n pc ls st H = some r → aRun cl scr cd rt (n + 1) pc ls st H = some r
  | 0, _, _, _, _, h => by cases h
  | n + 1, pc, ls, st, H, h => by
    rw [aRun] at h ⊢
    split at h
    · obtain ⟨-, h⟩ := aStep_c (kn := fun _ => aRun cl scr cd rt (n + 1)) (fun p ls st H r h => ⟨0, aRun_m n h⟩) h
      exact h
    · cases h
theorem aRun_le {cl : Nat → List Value → aH → aRs} {scr : aSc} {cd : aCd} {rt : Nat} {r : Option Value × aH} {n m : Nat} (hnm : n ≤ m) {pc : Nat} {ls : aLs} {st : List Value} {H : aH} (h : aRun cl scr cd rt n pc ls st H = some r) : aRun cl scr cd rt m pc ls st H = some r := by
  induction hnm with
  | refl => exact h
  | step _ ih => exact aRun_m _ ih
theorem aGo_of {cl : Nat → List Value → aH → aRs} {scr : aSc} {cd : aCd} {rt : Nat} {r : Option Value × aH} {n pc : Nat} {ls : aLs} {st : List Value} {H : aH} (h : aRun cl scr cd rt n pc ls st H = some r) : aGo cl scr cd rt pc ls st H = some r := by
  have hx : ∃ (r : Option Value × aH) (n : Nat), aRun cl scr cd rt n pc ls st H = some r := ⟨r, n, h⟩
  unfold aGo
  rw [dif_pos hx]
  obtain ⟨n', h'⟩ := hx.choose_spec
  have h1 := aRun_le (Nat.le_max_left n n') h
  have h2 := aRun_le (Nat.le_max_right n n') h'
  rw [h1] at h2
  exact h2.symm
theorem aGo_run {cl : Nat → List Value → aH → aRs} {scr : aSc} {cd : aCd} {rt : Nat} {r : Option Value × aH} {pc : Nat} {ls : aLs} {st : List Value} {H : aH} (h : aGo cl scr cd rt pc ls st H = some r) : ∃ n, aRun cl scr cd rt n pc ls st H = some r := by
  unfold aGo at h
  split at h
  · rename_i hx
    cases h
    exact hx.choose_spec
  · cases h
/-- a step -/
theorem aGo_s {cl : Nat → List Value → aH → aRs} {scr : aSc} {cd : aCd} {rt : Nat} {pc : Nat} {ls : aLs} {st : List Value} {H : aH} {q : aCI} (hq : aFetch cd pc = some q) : aGo cl scr cd rt pc ls st H = aStep cl scr rt (aGo cl scr cd rt) q ls st H := by
  cases h2 : aStep cl scr rt (aGo cl scr cd rt) q ls st H with
  | some r =>
    obtain ⟨n, h⟩ := aStep_c (kn := aRun cl scr cd rt) (fun p ls st H r h => aGo_run h) h2
    exact aGo_of (n := n + 1) (by rw [aRun, hq]; exact h)
  | none =>
    cases h1 : aGo cl scr cd rt pc ls st H with
    | none => rfl
    | some r =>
      obtain ⟨n, h⟩ := aGo_run h1
      cases n with
      | zero => cases h
      | succ n =>
        rw [aRun, hq] at h
        obtain ⟨-, h⟩ := aStep_c (kn := fun _ => aGo cl scr cd rt) (fun p ls st H r h => ⟨0, aGo_of h⟩) h
        rw [h] at h2
        cases h2
end
section
/-! what the tables say of the code: links, constants, classes, methods (by program) -/
theorem aMemP {α : Type} {L : List α} {big : List Cond} (f : α → Cond) (ps : List Nat) (h : L.map f = ps.filterMap (fun i => big[i]?)) : ∀ e ∈ L, f e ∈ big := by
  intro e he
  have h1 : f e ∈ L.map f := List.mem_map.mpr ⟨e, he, rfl⟩
  rw [h] at h1
  obtain ⟨i, -, hi⟩ := List.mem_filterMap.mp h1
  exact List.mem_of_getElem? hi
def aO (o : Nat) : String := aOwn.getD o ""
def aT (ci : Nat) : u_T := match ci with
  | 0 => TX0 | 1 => TX1 | 2 => TX2 | 3 => TX3 | 4 => TX4 | 5 => TX5 | 6 => TX6 | 7 => TX7 | _ => TX8
def aTy (ci : Nat) : Nat → FieldType := match ci with
  | 0 => tyX0 | 1 => tyX1 | 2 => tyX2 | 3 => tyX3 | 4 => tyX4 | 5 => tyX5 | 6 => tyX6 | 7 => tyX7 | _ => tyX8
def aFl : List (Nat × Nat × Nat × Nat) := [(0, 101, 5, 1), (0, 104, 5, 2), (0, 107, 5, 3), (0, 11, 0, 0), (0, 138, 5, 0), (0, 141, 2, 0), (0, 147, 2, 1), (0, 160, 2, 3), (0, 19, 0, 1), (0, 28, 0, 2), (0, 32, 0, 3), (0, 35, 0, 4), (0, 39, 0, 5), (0, 43, 0, 14), (0, 49, 0, 6), (0, 52, 0, 7), (0, 55, 0, 8), (0, 58, 0, 9), (0, 61, 0, 10), (0, 64, 0, 11), (0, 67, 0, 12), (0, 70, 0, 13), (0, 93, 5, 5), (1, 15, 1, 2), (1, 18, 1, 3), (1, 21, 1, 0), (1, 25, 1, 4), (1, 9, 1, 1), (2, 19, 2, 3), (2, 22, 2, 4), (2, 25, 2, 5), (2, 28, 2, 1), (2, 31, 2, 2), (2, 42, 5, 0), (2, 57, 5, 3), (2, 9, 2, 0), (3, 14, 3, 0), (3, 20, 3, 1), (3, 26, 3, 4), (3, 36, 3, 2), (3, 44, 3, 3), (4, 15, 4, 1), (4, 19, 4, 2), (4, 9, 4, 0), (5, 15, 5, 1), (5, 18, 5, 2), (5, 21, 5, 3), (5, 24, 5, 4), (5, 27, 5, 5), (5, 31, 5, 6), (5, 9, 5, 0), (6, 11, 6, 0), (6, 15, 2, 0), (6, 21, 6, 4), (6, 22, 2, 2), (6, 25, 6, 5), (6, 26, 2, 1), (6, 29, 6, 6), (6, 30, 6, 1), (6, 33, 6, 3), (6, 41, 6, 2), (7, 112, 0, 7), (7, 115, 0, 1), (7, 12, 7, 0), (7, 128, 5, 0), (7, 131, 5, 1), (7, 134, 5, 2), (7, 137, 5, 3), (7, 140, 5, 5), (7, 144, 5, 6), (7, 147, 5, 4), (7, 16, 7, 1), (7, 164, 0, 8), (7, 167, 0, 4), (7, 182, 3, 0), (7, 19, 7, 2), (7, 207, 0, 3), (7, 214, 0, 10), (7, 220, 0, 11), (7, 226, 0, 13), (7, 235, 0, 14), (7, 25, 7, 3), (7, 289, 6, 2), (7, 293, 6, 1), (7, 296, 6, 0), (7, 310, 4, 1), (7, 313, 4, 0), (7, 32, 7, 4), (7, 322, 4, 2), (7, 325, 7, 8), (7, 328, 0, 9), (7, 331, 0, 5), (7, 334, 0, 12), (7, 338, 2, 0), (7, 38, 7, 5), (7, 42, 7, 6), (7, 46, 7, 7), (7, 59, 0, 6), (7, 64, 0, 0), (7, 78, 2, 1), (7, 81, 2, 2), (7, 84, 2, 3), (7, 87, 2, 4), (7, 90, 2, 5), (8, 105, 8, 6), (8, 13, 8, 1), (8, 16, 8, 2), (8, 19, 8, 4), (8, 22, 8, 9), (8, 239, 8, 14), (8, 242, 8, 16), (8, 25, 8, 10), (8, 264, 8, 17), (8, 278, 8, 3), (8, 28, 8, 11), (8, 31, 8, 12), (8, 34, 8, 13), (8, 37, 8, 15), (8, 40, 8, 18), (8, 43, 8, 19), (8, 46, 8, 20), (8, 49, 8, 21), (8, 7, 8, 0), (8, 71, 8, 5), (8, 75, 8, 8), (8, 78, 8, 7)]
theorem aFl_ok : ∀ e ∈ aFl, Cond.fieldLink (aO e.1) e.2.1 (aT e.2.2.1 e.2.2.2).1 (aT e.2.2.1 e.2.2.2).2.1 (aT e.2.2.1 e.2.2.2).2.2.1 ∈ lw_tbl := aMemP (fun e : Nat × Nat × Nat × Nat => Cond.fieldLink (aO e.1) e.2.1 (aT e.2.2.1 e.2.2.2).1 (aT e.2.2.1 e.2.2.2).2.1 (aT e.2.2.1 e.2.2.2).2.2.1) [174, 177, 181, 205, 172, 134, 139, 145, 207, 209, 210, 212, 214, 232, 216, 218, 220, 222, 224, 226, 228, 230, 186, 112, 113, 110, 114, 111, 143, 146, 148, 137, 141, 170, 180, 132, 274, 276, 279, 277, 278, 331, 333, 329, 173, 176, 179, 183, 185, 188, 169, 297, 133, 304, 140, 305, 136, 306, 299, 303, 301, 219, 208, 342, 171, 175, 178, 182, 187, 189, 184, 343, 221, 213, 275, 344, 211, 225, 227, 231, 233, 345, 302, 300, 298, 332, 330, 346, 334, 350, 223, 215, 229, 135, 347, 348, 349, 217, 206, 138, 142, 144, 147, 149, 946, 941, 942, 944, 949, 954, 956, 950, 957, 943, 951, 952, 953, 955, 958, 959, 960, 961, 940, 945, 948, 947] (by decide +kernel)
def aSn (a : Nat) : String × String := if a = 1000 then (RX7, "KIND_ABOVE") else if a = 1001 then (RX7, "MOST_MARK") else (RX6, "BODIES")
def aGs : List (Nat × Nat × Nat) := [(6, 48, 1002), (7, 154, 1001)]
theorem aGs_ok : ∀ e ∈ aGs, Cond.fieldLink (aO e.1) e.2.1 (aSn e.2.2).1 (aSn e.2.2).2 "[I" ∈ lw_tbl := aMemP (fun e : Nat × Nat × Nat => Cond.fieldLink (aO e.1) e.2.1 (aSn e.2.2).1 (aSn e.2.2).2 "[I") [859, 486] (by decide +kernel)
def aGn : List (Nat × Nat × Nat) := [(2, 38, 1000), (6, 51, 1000)]
theorem aGn_ok : ∀ e ∈ aGn, Cond.fieldLinkNest (aO e.1) e.2.1 (aSn e.2.2).1 (aSn e.2.2).2 "[I" RX7 ∈ lw_tbl := aMemP (fun e : Nat × Nat × Nat => Cond.fieldLinkNest (aO e.1) e.2.1 (aSn e.2.2).1 (aSn e.2.2).2 "[I" RX7) [426, 861] (by decide +kernel)
def aY (x : Nat) : MethodName := ((aMt[x]?).map (fun q => q.1)).getD yX0_init
def aIv : List (Nat × Nat × Nat) := [(0, 110, 24), (0, 114, 34), (0, 118, 53), (0, 122, 8), (0, 126, 9), (0, 130, 2), (0, 134, 3), (0, 144, 54), (0, 156, 14), (0, 163, 36), (0, 167, 16), (0, 171, 13), (0, 174, 18), (0, 177, 35), (0, 180, 56), (0, 25, 19), (0, 47, 28), (0, 73, 31), (0, 77, 52), (0, 80, 22), (0, 97, 33), (1, 34, 21), (1, 38, 25), (1, 51, 26), (1, 59, 27), (12, 335, 225), (12, 492, 223), (12, 505, 224), (12, 633, 222), (12, 637, 226), (13, 88, 227), (13, 95, 228), (2, 15, 30), (2, 47, 33), (3, 11, 19), (3, 47, 20), (3, 50, 39), (3, 54, 40), (3, 58, 44), (3, 62, 23), (3, 70, 43), (3, 73, 221), (3, 78, 41), (3, 81, 42), (4, 22, 220), (6, 37, 59), (6, 44, 60), (6, 54, 61), (6, 58, 62), (7, 100, 106), (7, 104, 32), (7, 108, 109), (7, 11, 0), (7, 119, 51), (7, 124, 3), (7, 150, 7), (7, 158, 55), (7, 161, 5), (7, 171, 107), (7, 174, 38), (7, 178, 4), (7, 186, 22), (7, 192, 21), (7, 196, 20), (7, 199, 24), (7, 203, 34), (7, 210, 13), (7, 217, 17), (7, 223, 15), (7, 238, 9), (7, 241, 8), (7, 245, 10), (7, 248, 1), (7, 251, 111), (7, 254, 112), (7, 257, 219), (7, 262, 220), (7, 268, 11), (7, 271, 113), (7, 274, 110), (7, 278, 46), (7, 282, 114), (7, 286, 58), (7, 299, 47), (7, 303, 48), (7, 307, 49), (7, 341, 12), (7, 50, 108), (7, 55, 105), (7, 68, 29), (7, 74, 2), (7, 93, 6), (7, 97, 30), (8, 102, 141), (8, 108, 133), (8, 111, 140), (8, 114, 135), (8, 117, 142), (8, 120, 145), (8, 124, 146), (8, 127, 118), (8, 130, 147), (8, 133, 148), (8, 136, 124), (8, 139, 149), (8, 142, 151), (8, 146, 152), (8, 150, 153), (8, 153, 154), (8, 156, 150), (8, 159, 156), (8, 162, 155), (8, 165, 157), (8, 168, 127), (8, 172, 158), (8, 175, 125), (8, 179, 161), (8, 182, 159), (8, 185, 160), (8, 188, 163), (8, 191, 122), (8, 194, 165), (8, 197, 128), (8, 200, 197), (8, 203, 123), (8, 206, 170), (8, 209, 130), (8, 212, 162), (8, 215, 184), (8, 218, 187), (8, 221, 186), (8, 224, 189), (8, 227, 191), (8, 230, 210), (8, 233, 120), (8, 236, 121), (8, 245, 196), (8, 249, 200), (8, 252, 198), (8, 255, 201), (8, 258, 199), (8, 261, 202), (8, 268, 203), (8, 271, 206), (8, 274, 119), (8, 53, 117), (8, 57, 126), (8, 61, 129), (8, 65, 116), (8, 81, 136), (8, 85, 132), (8, 89, 134), (8, 93, 137), (8, 96, 138), (8, 99, 139), (9, 100, 84), (9, 103, 183), (9, 104, 85), (9, 107, 185), (9, 108, 86), (9, 111, 188), (9, 112, 87), (9, 115, 190), (9, 116, 88), (9, 119, 192), (9, 12, 115), (9, 120, 89), (9, 123, 193), (9, 124, 90), (9, 127, 194), (9, 128, 91), (9, 13, 64), (9, 132, 195), (9, 133, 92), (9, 136, 204), (9, 137, 93), (9, 140, 205), (9, 141, 94), (9, 144, 207), (9, 145, 95), (9, 148, 208), (9, 149, 96), (9, 153, 209), (9, 154, 97), (9, 157, 211), (9, 158, 98), (9, 161, 212), (9, 162, 99), (9, 165, 213), (9, 166, 100), (9, 169, 214), (9, 17, 164), (9, 170, 101), (9, 173, 215), (9, 174, 102), (9, 177, 216), (9, 178, 103), (9, 18, 65), (9, 181, 217), (9, 182, 104), (9, 185, 218), (9, 22, 166), (9, 23, 66), (9, 26, 167), (9, 27, 67), (9, 30, 168), (9, 31, 68), (9, 35, 169), (9, 36, 69), (9, 40, 171), (9, 41, 70), (9, 44, 172), (9, 45, 71), (9, 48, 173), (9, 49, 72), (9, 52, 174), (9, 55, 73), (9, 59, 131), (9, 60, 74), (9, 63, 143), (9, 64, 75), (9, 67, 144), (9, 68, 76), (9, 71, 175), (9, 72, 77), (9, 75, 176), (9, 76, 78), (9, 79, 177), (9, 80, 79), (9, 83, 178), (9, 84, 80), (9, 87, 179), (9, 88, 81), (9, 9, 63), (9, 91, 180), (9, 92, 82), (9, 95, 181), (9, 96, 83), (9, 99, 182)]
theorem aIv_ok : ∀ e ∈ aIv, Cond.methodLink (aO e.1) e.2.1 (aY e.2.2) ∈ lw_tbl := aMemP (fun e : Nat × Nat × Nat => Cond.methodLink (aO e.1) e.2.1 (aY e.2.2)) [457, 689, 681, 685, 677, 700, 690, 691, 696, 701, 714, 719, 720, 724, 728, 106, 128, 768, 772, 776, 408, 461, 465, 469, 473, 558, 548, 554, 544, 562, 565, 570, 391, 663, 272, 519, 523, 527, 630, 536, 532, 540, 622, 626, 883, 851, 855, 862, 866, 377, 421, 433, 96, 441, 449, 453, 493, 497, 509, 512, 633, 637, 648, 649, 654, 659, 673, 710, 737, 750, 751, 756, 764, 778, 792, 782, 804, 807, 815, 822, 826, 831, 847, 879, 888, 893, 796, 374, 381, 387, 399, 404, 416, 1044, 1052, 1060, 1024, 1068, 1154, 1150, 1157, 1146, 1179, 1091, 1142, 1195, 1191, 1199, 1187, 1207, 1223, 1227, 1219, 1130, 1231, 1079, 1243, 1215, 1248, 1076, 1087, 1095, 1111, 1119, 1138, 1164, 1171, 1239, 1272, 1280, 1283, 1291, 1299, 1306, 1313, 1317, 1341, 1337, 1333, 1345, 1349, 1353, 1357, 1310, 1389, 1011, 1103, 1099, 1014, 1028, 1048, 1056, 1032, 1036, 1040, 752, 1264, 760, 1268, 788, 1276, 800, 1287, 811, 1295, 936, 818, 1302, 835, 1321, 839, 370, 1325, 843, 1329, 871, 1361, 875, 1365, 884, 1369, 897, 1373, 902, 1377, 906, 1381, 910, 1385, 914, 1392, 1072, 918, 1396, 922, 1400, 926, 395, 1404, 930, 1408, 1083, 412, 1107, 417, 1115, 429, 1122, 437, 1126, 445, 1134, 482, 1160, 489, 1167, 501, 1007, 505, 1020, 644, 1064, 650, 1175, 655, 1183, 665, 1203, 669, 1211, 706, 1235, 733, 88, 1252, 742, 1256, 746, 1260] (by decide +kernel)
def aIn : List (Nat × Nat × Nat) := [(0, 48, 50), (0, 89, 106), (1, 55, 106), (2, 34, 106), (3, 66, 106), (4, 28, 106), (6, 61, 106), (7, 24, 37), (7, 31, 57), (7, 49, 45)]
theorem aIn_ok : ∀ e ∈ aIn, Cond.methodLinkNest (aO e.1) e.2.1 (aY e.2.2) RX7 ∈ lw_tbl := aMemP (fun e : Nat × Nat × Nat => Cond.methodLinkNest (aO e.1) e.2.1 (aY e.2.2) RX7) [165, 403, 472, 425, 531, 892, 858, 267, 293, 325] (by decide +kernel)
def aYb (x : Nat) : MethodName := if x = 900 then Lib.Math.max.name else if x = 901 then Lib.Math.min.name else if x = 902 then arraycopyName else Lib.objectInit
def aBl : List (Nat × Nat × Nat) := [(0, 150, 901), (0, 3, 904), (0, 83, 902), (1, 28, 902), (1, 3, 904), (1, 42, 901), (1, 48, 900), (13, 38, 901), (13, 92, 900), (2, 3, 904), (2, 51, 900), (2, 60, 901), (3, 3, 904), (3, 30, 901), (4, 3, 904), (5, 3, 904), (5, 34, 901), (6, 3, 904), (7, 229, 901), (7, 3, 904), (7, 316, 902), (8, 1, 904)]
theorem aBl_ok : ∀ e ∈ aBl, Cond.methodLink (aO e.1) e.2.1 (aYb e.2.2) ∈ lw_tbl := aMemP (fun e : Nat × Nat × Nat => Cond.methodLink (aO e.1) e.2.1 (aYb e.2.2)) [695, 99, 777, 641, 109, 476, 479, 569, 568, 131, 664, 705, 270, 516, 328, 168, 732, 296, 741, 91, 901, 939] (by decide +kernel)
def aCt : List (Nat × Nat × Int32) := [(0, 166, 1103515245), (10, 265, 1431655765), (10, 266, 858993459), (10, 267, 252645135), (7, 107, -1000000005), (7, 157, -1000000003), (7, 281, -1000000002), (7, 292, -1000000006), (7, 337, -1000000000), (7, 54, -1000000001), (7, 63, -1000000004), (8, 178, 1103515245), (8, 52, -1000000000)]
theorem aCt_ok : ∀ e ∈ aCt, Cond.constant (aO e.1) e.2.1 e.2.2 ∈ lw_tbl := aMemP (fun e : Nat × Nat × Int32 => Cond.constant (aO e.1) e.2.1 e.2.2) [718, 785, 786, 787, 428, 488, 830, 870, 385, 380, 386, 1247, 1018] (by decide +kernel)
def aCl : List (Nat × Nat × Nat) := [(8, 69, 255), (9, 53, 4294967295)]
theorem aCl_ok : ∀ e ∈ aCl, Cond.constantLong (aO e.1) e.2.1 (Int64.ofNat e.2.2) ∈ lw_tbl := aMemP (fun e : Nat × Nat × Nat => Cond.constantLong (aO e.1) e.2.1 (Int64.ofNat e.2.2)) [1019, 1412] (by decide +kernel)
def aSf (y : Nat) : String × String := if y = 0 then ("value", "[B") else ("coder", "B")
def aFs : List (Nat × Nat × Nat) := [(12, 15, 1), (12, 9, 0)]
theorem aFs_ok : ∀ e ∈ aFs, Cond.fieldLink (aO e.1) e.2.1 "java/lang/String" (aSf e.2.2).1 (aSf e.2.2).2 ∈ lw_tbl := aMemP (fun e : Nat × Nat × Nat => Cond.fieldLink (aO e.1) e.2.1 "java/lang/String" (aSf e.2.2).1 (aSf e.2.2).2) [1413, 1414] (by decide +kernel)
def aGi : List (Nat × Nat) := [(12, 38)]
theorem aGi_ok : ∀ e ∈ aGi, Cond.fieldLink (aO e.1) e.2 "java/lang/String" "COMPACT_STRINGS" "Z" ∈ lw_tbl := aMemP (fun e : Nat × Nat => Cond.fieldLink (aO e.1) e.2 "java/lang/String" "COMPACT_STRINGS" "Z") [552] (by decide +kernel)
def aTs (a : Nat) : String := if a = 2000 then "" else if a = 2001 then "loa" else "lso"
def aSr : List (Nat × Nat × Nat) := [(3, 24, 2000), (3, 40, 2001), (3, 42, 2002)]
theorem aSr_ok : ∀ e ∈ aSr, Cond.stringRef (aO e.1) e.2.1 (aTs e.2.2) ∈ lw_tbl := aMemP (fun e : Nat × Nat × Nat => Cond.stringRef (aO e.1) e.2.1 (aTs e.2.2)) [273, 517, 518] (by decide +kernel)
def aNw : List (Nat × Nat × Nat) := [(0, 17, 5), (0, 23, 1), (0, 9, 2), (3, 9, 1), (7, 22, 3), (7, 29, 6), (7, 36, 4), (7, 9, 0), (9, 10, 8), (9, 7, 7)]
theorem aNw_ok : ∀ e ∈ aNw, Cond.classLink (aO e.1) e.2.1 (aO e.2.2) ∈ lw_tbl := aMemP (fun e : Nat × Nat × Nat => Cond.classLink (aO e.1) e.2.1 (aO e.2.2)) [102, 104, 100, 271, 265, 291, 322, 94, 934, 86] (by decide +kernel)
theorem aInst_ok : ∀ e ∈ [0, 1, 2, 3, 4, 5, 6, 7, 8], Cond.instantiable (aO e) (aLen e) ∈ lw_tbl := aMemP (fun e : Nat => Cond.instantiable (aO e) (aLen e)) [95, 105, 127, 266, 324, 164, 292, 87, 935] (by decide +kernel)
theorem aIni_ok : ∀ e ∈ [0, 1, 2, 3, 4, 5, 6, 7, 8, 9, 10, 11, 12, 13], Cond.initialized (aO e) ∈ lw_tbl := aMemP (fun e : Nat => Cond.initialized (aO e)) [69, 70, 71, 73, 75, 72, 74, 68, 76, 67, 84, 85, 78, 79] (by decide +kernel)
theorem aOver_ok : ∀ e ∈ [2, 5, 4], Cond.arrayOver (.object (aO e)) ∈ lw_tbl := aMemP (fun e : Nat => Cond.arrayOver (.object (aO e))) [101, 103, 323] (by decide +kernel)
theorem aLay_0 : ∀ e ∈ List.range 15, u_lay RX0 TX0 e ∈ lw_tbl := aMemP (fun e : Nat => u_lay RX0 TX0 e) [234, 236, 238, 240, 242, 244, 246, 248, 250, 252, 254, 256, 258, 260, 262] (by decide +kernel)
theorem aLay_1 : ∀ e ∈ List.range 5, u_lay RX1 TX1 e ∈ lw_tbl := aMemP (fun e : Nat => u_lay RX1 TX1 e) [115, 117, 119, 121, 123] (by decide +kernel)
theorem aLay_2 : ∀ e ∈ List.range 6, u_lay RX2 TX2 e ∈ lw_tbl := aMemP (fun e : Nat => u_lay RX2 TX2 e) [150, 152, 154, 156, 158, 160] (by decide +kernel)
theorem aLay_3 : ∀ e ∈ List.range 5, u_lay RX3 TX3 e ∈ lw_tbl := aMemP (fun e : Nat => u_lay RX3 TX3 e) [280, 282, 284, 286, 288] (by decide +kernel)
theorem aLay_4 : ∀ e ∈ List.range 3, u_lay RX4 TX4 e ∈ lw_tbl := aMemP (fun e : Nat => u_lay RX4 TX4 e) [335, 337, 339] (by decide +kernel)
theorem aLay_5 : ∀ e ∈ List.range 7, u_lay RX5 TX5 e ∈ lw_tbl := aMemP (fun e : Nat => u_lay RX5 TX5 e) [190, 192, 194, 196, 198, 200, 202] (by decide +kernel)
theorem aLay_6 : ∀ e ∈ List.range 7, u_lay RX6 TX6 e ∈ lw_tbl := aMemP (fun e : Nat => u_lay RX6 TX6 e) [307, 309, 311, 313, 315, 317, 319] (by decide +kernel)
theorem aLay_7 : ∀ e ∈ List.range 9, u_lay RX7 TX7 e ∈ lw_tbl := aMemP (fun e : Nat => u_lay RX7 TX7 e) [351, 353, 355, 357, 359, 361, 363, 365, 367] (by decide +kernel)
theorem aLay_8 : ∀ e ∈ List.range 22, u_lay RX8 TX8 e ∈ lw_tbl := aMemP (fun e : Nat => u_lay RX8 TX8 e) [962, 964, 966, 968, 970, 972, 974, 976, 978, 980, 982, 984, 986, 988, 990, 992, 994, 996, 998, 1000, 1002, 1004] (by decide +kernel)
set_option maxRecDepth 100000 in
theorem aCode_ok : ∀ q ∈ aMt, Cond.code q.1 q.2.1 q.2.2.1 q.2.2.2.1 ∈ lw_tbl := aMemP (fun q : aMeth => Cond.code q.1 q.2.1 q.2.2.1 q.2.2.2.1) [98, 767, 402, 452, 636, 500, 407, 456, 688, 680, 759, 810, 799, 676, 699, 740, 717, 713, 723, 108, 522, 464, 640, 539, 460, 468, 471, 475, 130, 390, 394, 771, 424, 411, 662, 727, 704, 269, 515, 526, 530, 625, 629, 535, 632, 327, 829, 882, 891, 896, 167, 444, 775, 684, 694, 496, 731, 295, 850, 854, 857, 865, 869, 90, 373, 398, 415, 420, 432, 440, 448, 485, 492, 504, 508, 647, 653, 658, 668, 672, 709, 736, 745, 749, 755, 763, 791, 803, 814, 821, 838, 842, 846, 874, 878, 887, 900, 905, 909, 913, 917, 921, 925, 929, 933, 384, 379, 511, 376, 436, 825, 781, 795, 817, 834, 938, 1017, 1013, 1159, 1391, 1316, 1320, 1090, 1141, 1094, 1082, 1106, 1133, 1114, 1102, 1174, 1010, 1051, 1055, 1059, 1027, 1031, 1035, 1039, 1043, 1063, 1047, 1071, 1023, 1067, 1156, 1153, 1149, 1182, 1145, 1210, 1198, 1194, 1202, 1190, 1230, 1226, 1222, 1234, 1218, 1251, 1246, 1242, 1078, 1075, 1098, 1086, 1110, 1118, 1125, 1166, 1129, 1137, 1163, 1170, 1178, 1186, 1206, 1214, 1238, 1255, 1259, 1263, 1267, 1275, 1271, 1286, 1282, 1279, 1294, 1290, 1301, 1298, 1305, 1324, 1328, 1344, 1121, 1336, 1352, 1340, 1348, 1356, 1360, 1332, 1364, 1312, 1368, 1372, 1376, 1309, 1380, 1384, 1388, 1395, 1399, 1403, 1407, 1411, 784, 806, 543, 547, 551, 557, 561, 564, 567, 572] rfl
theorem aKind_ok : ∀ q ∈ aMt, (if q.2.2.2.2.2.2.1 = 0 then Cond.static q.1 else Cond.instanceMethod q.1) ∈ lw_tbl := aMemP (fun q : aMeth => if q.2.2.2.2.2.2.1 = 0 then Cond.static q.1 else Cond.instanceMethod q.1) [97, 765, 400, 450, 634, 498, 405, 454, 686, 678, 757, 808, 797, 674, 697, 738, 715, 711, 721, 107, 520, 462, 638, 537, 458, 467, 470, 474, 129, 388, 392, 769, 422, 409, 660, 725, 702, 268, 513, 525, 529, 624, 628, 534, 631, 326, 827, 880, 889, 894, 166, 442, 773, 682, 692, 494, 729, 294, 848, 853, 856, 864, 868, 89, 371, 396, 413, 418, 430, 438, 446, 483, 490, 502, 506, 645, 651, 656, 666, 670, 707, 734, 743, 747, 753, 761, 789, 801, 812, 819, 836, 840, 844, 872, 876, 885, 898, 903, 907, 911, 915, 919, 923, 927, 931, 383, 378, 510, 375, 435, 824, 780, 794, 816, 833, 937, 1016, 1012, 1158, 1390, 1315, 1319, 1089, 1140, 1093, 1081, 1105, 1132, 1113, 1101, 1173, 1008, 1050, 1054, 1058, 1026, 1030, 1034, 1038, 1042, 1062, 1046, 1070, 1021, 1065, 1155, 1152, 1148, 1181, 1144, 1209, 1197, 1193, 1201, 1189, 1229, 1225, 1221, 1233, 1217, 1250, 1245, 1241, 1077, 1073, 1097, 1084, 1108, 1116, 1123, 1165, 1127, 1135, 1161, 1168, 1176, 1184, 1204, 1212, 1236, 1253, 1257, 1261, 1265, 1274, 1269, 1285, 1281, 1277, 1293, 1288, 1300, 1296, 1303, 1322, 1326, 1343, 1120, 1335, 1351, 1339, 1347, 1355, 1359, 1330, 1362, 1311, 1366, 1370, 1374, 1308, 1378, 1382, 1386, 1393, 1397, 1401, 1405, 1409, 783, 805, 541, 545, 549, 555, 559, 563, 566, 571] (by decide +kernel)
theorem aSel_ok : ∀ q ∈ aMt.filter (fun q => q.2.2.2.2.2.2.1 == 1), Cond.selects q.2.2.2.2.1 q.1 q.1 ∈ lw_tbl := aMemP (fun q : aMeth => Cond.selects q.2.2.2.2.1 q.1 q.1) [766, 401, 451, 635, 499, 406, 455, 687, 679, 758, 809, 798, 675, 698, 739, 716, 712, 722, 521, 463, 639, 538, 459, 2, 389, 393, 770, 423, 410, 661, 726, 703, 514, 3, 4, 6, 7, 5, 828, 881, 890, 895, 443, 774, 683, 693, 495, 730, 849, 12, 13, 14, 372, 397, 414, 419, 431, 439, 447, 484, 491, 503, 507, 646, 652, 657, 667, 671, 708, 735, 744, 748, 754, 762, 790, 802, 813, 820, 837, 841, 845, 873, 877, 886, 899, 904, 908, 912, 916, 920, 924, 928, 932, 0, 1, 10, 8, 9, 11, 15, 58, 59, 28, 35, 29, 27, 32, 34, 33, 31, 39, 1009, 22, 23, 24, 16, 17, 18, 19, 20, 25, 21, 26, 1022, 1066, 38, 37, 40, 36, 45, 43, 42, 44, 41, 49, 48, 47, 50, 46, 53, 52, 51, 1074, 30, 1085, 1109, 1117, 1124, 1128, 1136, 1162, 1169, 1177, 1185, 1205, 1213, 1237, 1254, 1258, 1262, 1266, 54, 1270, 55, 1278, 56, 1289, 1297, 1304, 1323, 1327, 62, 60, 64, 61, 63, 65, 66, 1331, 1363, 1367, 1371, 1375, 57, 1379, 1383, 1387, 1394, 1398, 1402, 1406, 1410, 542, 546, 550, 556, 560] (by decide +kernel)
theorem aMt_s : aMt.all (fun q => decide (q.1.cls = q.2.2.2.2.1) && decide (q.1.cls ≠ "java/lang/invoke/MethodHandle") && decide (q.1.cls ≠ "java/lang/invoke/VarHandle") && decide ((parseMethodDescriptor q.1.desc).map (fun d => d.parameters.length) = some (if q.2.2.2.2.2.2.1 = 0 then q.2.2.2.2.2.1 else q.2.2.2.2.2.1 - 1)) && decide (q.2.2.2.2.2.2.1 = 0 ∨ 1 ≤ q.2.2.2.2.2.1) && decide (q.2.2.2.2.2.2.1 = 2 → q.1.name = "<init>" ∧ q.2.2.2.1 = none) && plainName q.1.cls && decide (q.2.2.1 ≤ 13) && decide (aRt q.2.2.2.1 ≤ 3)) = true := by decide +kernel
def aOc : List Nat := [0, 0, 0, 0, 0, 0, 0, 0, 0, 0, 0, 0, 0, 0, 0, 0, 0, 0, 0, 1, 1, 1, 1, 1, 1, 1, 1, 1, 2, 2, 2, 2, 2, 2, 2, 2, 2, 3, 3, 3, 3, 3, 3, 3, 3, 4, 4, 4, 4, 4, 5, 5, 5, 5, 5, 5, 5, 6, 6, 6, 6, 6, 6, 7, 7, 7, 7, 7, 7, 7, 7, 7, 7, 7, 7, 7, 7, 7, 7, 7, 7, 7, 7, 7, 7, 7, 7, 7, 7, 7, 7, 7, 7, 7, 7, 7, 7, 7, 7, 7, 7, 7, 7, 7, 7, 7, 7, 7, 7, 7, 7, 7, 7, 7, 7, 8, 8, 8, 8, 8, 8, 8, 8, 8, 8, 8, 8, 8, 8, 8, 8, 8, 8, 8, 8, 8, 8, 8, 8, 8, 8, 8, 8, 8, 8, 8, 8, 8, 8, 8, 8, 8, 8, 8, 8, 8, 8, 8, 8, 8, 8, 8, 8, 8, 8, 8, 8, 8, 8, 8, 8, 8, 8, 8, 8, 8, 8, 8, 8, 8, 8, 8, 8, 8, 8, 8, 8, 8, 8, 8, 8, 8, 8, 8, 8, 8, 8, 8, 8, 8, 8, 8, 8, 8, 8, 8, 8, 8, 8, 8, 8, 8, 8, 8, 8, 8, 8, 8, 8, 10, 11, 12, 12, 12, 12, 12, 13, 13, 13]
def aTB : List Cond := lw_tbl.filter goodWord
theorem aTB_in {w : Cond} (h : w ∈ lw_tbl) (g : goodWord w = true) : w ∈ aTB := List.mem_filter.mpr ⟨h, g⟩
theorem aTB_tbl {w : Cond} (h : w ∈ aTB) : w ∈ lw_tbl := (List.mem_filter.mp h).1
theorem aTB_good : aTB.all goodWord = true := List.all_eq_true.mpr fun _ h => (List.mem_filter.mp h).2
theorem aBase_ok : ∀ e ∈ [Cond.static Lib.Math.max.name, Cond.static Lib.Math.min.name, Cond.initialized "java/lang/Math", Cond.code Lib.Math.max.name Lib.Math.max.code 2 (some .int), Cond.code Lib.Math.min.name Lib.Math.min.code 2 (some .int), Cond.native arraycopyName, Cond.static arraycopyName, Cond.initialized "java/lang/System", Cond.instanceMethod Lib.objectInit, Cond.code Lib.objectInit ⟨#[0xb1]⟩ 1 none, Cond.arrayClass .int, Cond.arrayClass .byte], e ∈ lw_tbl := aMemP id [480, 477, 77, 481, 478, 643, 642, 83, 92, 93, 126, 163] (by decide +kernel)
end
section
/-! the code, entry by entry, held against the bytes and the tables -/
def aLn : Instr → Nat
  | .aload _ | .iload _ | .istore _ | .astore _ | .bipush _ | .ldc _ | .newarray _ => 2
  | .sipush _ | .ldc_w _ | .ldc2_w _ | .getfield _ | .putfield _ | .getstatic _ | .ifCond _ _ | .if_icmp _ _ | .ifnull _ | .ifnonnull _ | .goto _ | .iinc _ _ | .anewarray _ | .new _ | .invokevirtual _ | .invokestatic _ | .invokespecial _ => 3
  | _ => 1
def aKn (x : Nat) : Nat := ((aMt[x]?).map (fun q => q.2.2.2.2.2.2.1)).getD 9
def aNa (x : Nat) : Nat := ((aMt[x]?).map (fun q => q.2.2.2.2.2.1)).getD 99
def aInfo (o : Nat) (ini : Bool) (pc len : Nat) (i : Instr) (x y : Nat) (c : Int32) (sw : List (Int32 × Nat)) : Bool := match i with
  | .iconst n => Int32.ofInt n == c
  | .bipush n => (Int8.ofInt n).toInt32 == c
  | .sipush n => (Int16.ofInt n).toInt32 == c
  | .ldc j => if y = 0 then aCt.contains (o, j, c) else aSr.contains (o, j, x)
  | .ldc_w j => aCt.contains (o, j, c)
  | .ldc2_w j => aCl.contains (o, j, x)
  | .getfield j => if x = 50 then aFs.contains (o, j, y) else aFl.contains (o, j, x, y) && decide (x < 9 ∧ y < aLen x)
  | .putfield j => aFl.contains (o, j, x, y) && decide (x < 9 ∧ y < aLen x) && (!(aT x y).2.2.2 || (ini && decide ((aT x y).1 = aO o)))
  | .getstatic j => if x = 1 then aGi.contains (o, j) else (aGs.contains (o, j, x) || aGn.contains (o, j, x)) && decide (1000 ≤ x ∧ x < 1003)
  | .ifCond _ f => decide ((pc : Int) + f = (x : Int))
  | .if_icmp _ f => decide ((pc : Int) + f = (x : Int))
  | .ifnull f => decide ((pc : Int) + f = (x : Int))
  | .ifnonnull f => decide ((pc : Int) + f = (x : Int))
  | .goto f => decide ((pc : Int) + f = (x : Int))
  | .tableswitch d lo hi offs => decide ((pc : Int) + d = (x : Int)) && decide (offs.size = sw.length) && decide (lo + sw.length = hi + 1) && sw.zipIdx.all (fun e => decide (e.1.1.toInt = lo + e.2) && decide ((offs[e.2]?).map (fun f => (pc : Int) + f) = some (e.1.2 : Int)))
  | .lookupswitch d ps => decide ((pc : Int) + d = (x : Int)) && (ps.toList.zip (ps.toList.drop 1)).all (fun (a, next) => a.1 < next.1) && decide (ps.toList.map (fun e => (e.1, (pc : Int) + e.2)) = sw.map (fun e => (e.1.toInt, (e.2 : Int))))
  | .iinc _ n => Int32.ofInt n == c
  | .newarray t => aAty t != 99
  | .anewarray j => decide (22 ≤ x ∧ x ≤ 24) && aNw.contains (o, j, aKc x)
  | .new j => aNw.contains (o, j, x) && decide (x < 9)
  | .invokevirtual j => aIv.contains (o, j, x) && decide (aKn x = 1 ∧ aNa x = y % 100 + 1 ∧ aOc[x]? = some (y / 100))
  | .invokestatic j => if x = 900 ∨ x = 901 ∨ x = 902 then aBl.contains (o, j, x) else if x = 999 then true else (aIv.contains (o, j, x) || aIn.contains (o, j, x)) && decide (aKn x = 0 ∧ aNa x = y)
  | .invokespecial j => if x = 904 then aBl.contains (o, j, x) else (aIv.contains (o, j, x) || aIn.contains (o, j, x)) && decide (aKn x = 2 ∧ aNa x = y + 1)
  | _ => true
def aSwi : Instr → Bool
  | .tableswitch _ _ _ _ => true
  | .lookupswitch _ _ => true
  | _ => false
def aChk (o : Nat) (b : ByteArray) (ini : Bool) (q : aCI) : Bool := decide (decode b q.1 = .ok (q.2.2.1, q.2.1)) && (aSwi q.2.2.1 || decide (q.2.1 = aLn q.2.2.1)) && aInfo o ini q.1 q.2.1 q.2.2.1 q.2.2.2.1 q.2.2.2.2.1 q.2.2.2.2.2.1 q.2.2.2.2.2.2
theorem k_0 : cd_0.all (fun l => l.all (aChk 0 cX0_init true)) = true := by decide +kernel
theorem k_1 : cd_1.all (fun l => l.all (aChk 0 cX0_copyFrom false)) = true := by decide +kernel
theorem k_2 : cd_2.all (fun l => l.all (aChk 0 cX0_personAt false)) = true := by decide +kernel
theorem k_3 : cd_3.all (fun l => l.all (aChk 0 cX0_thingAt false)) = true := by decide +kernel
theorem k_4 : cd_4.all (fun l => l.all (aChk 0 cX0_lawOf false)) = true := by decide +kernel
theorem k_5 : cd_5.all (fun l => l.all (aChk 0 cX0_inside false)) = true := by decide +kernel
theorem k_6 : cd_6.all (fun l => l.all (aChk 0 cX0_insideOf false)) = true := by decide +kernel
theorem k_7 : cd_7.all (fun l => l.all (aChk 0 cX0_appealOf false)) = true := by decide +kernel
theorem k_8 : cd_8.all (fun l => l.all (aChk 0 cX0_pullOf false)) = true := by decide +kernel
theorem k_9 : cd_9.all (fun l => l.all (aChk 0 cX0_wantedBy false)) = true := by decide +kernel
theorem k_10 : cd_10.all (fun l => l.all (aChk 0 cX0_wantersOf false)) = true := by decide +kernel
theorem k_11 : cd_11.all (fun l => l.all (aChk 0 cX0_robbedBy false)) = true := by decide +kernel
theorem k_12 : cd_12.all (fun l => l.all (aChk 0 cX0_firstToBeStolen false)) = true := by decide +kernel
theorem k_13 : cd_13.all (fun l => l.all (aChk 0 cX0_takenBy false)) = true := by decide +kernel
theorem k_14 : cd_14.all (fun l => l.all (aChk 0 cX0_eat false)) = true := by decide +kernel
theorem k_15 : cd_15.all (fun l => l.all (aChk 0 cX0_throwOut false)) = true := by decide +kernel
theorem k_16 : cd_16.all (fun l => l.all (aChk 0 cX0_drawnBelow false)) = true := by decide +kernel
theorem k_17 : cd_17.all (fun l => l.all (aChk 0 cX0_hourByDraws false)) = true := by decide +kernel
theorem k_18 : cd_18.all (fun l => l.all (aChk 0 cX0_hourGoes false)) = true := by decide +kernel
theorem k_19 : cd_19.all (fun l => l.all (aChk 1 cX1_init true)) = true := by decide +kernel
theorem k_20 : cd_20.all (fun l => l.all (aChk 1 cX1_clear false)) = true := by decide +kernel
theorem k_21 : cd_21.all (fun l => l.all (aChk 1 cX1_hasText false)) = true := by decide +kernel
theorem k_22 : cd_22.all (fun l => l.all (aChk 1 cX1_copyFrom false)) = true := by decide +kernel
theorem k_23 : cd_23.all (fun l => l.all (aChk 1 cX1_append false)) = true := by decide +kernel
theorem k_24 : cd_24.all (fun l => l.all (aChk 1 cX1_gives false)) = true := by decide +kernel
theorem k_25 : cd_25.all (fun l => l.all (aChk 1 cX1_workedOut false)) = true := by decide +kernel
theorem k_26 : cd_26.all (fun l => l.all (aChk 1 cX1_named false)) = true := by decide +kernel
theorem k_27 : cd_27.all (fun l => l.all (aChk 1 cX1_joined false)) = true := by decide +kernel
theorem k_28 : cd_28.all (fun l => l.all (aChk 2 cX2_init true)) = true := by decide +kernel
theorem k_29 : cd_29.all (fun l => l.all (aChk 2 cX2_arrive false)) = true := by decide +kernel
theorem k_30 : cd_30.all (fun l => l.all (aChk 2 cX2_turnInto false)) = true := by decide +kernel
theorem k_31 : cd_31.all (fun l => l.all (aChk 2 cX2_copyFrom false)) = true := by decide +kernel
theorem k_32 : cd_32.all (fun l => l.all (aChk 2 cX2_isOfKind false)) = true := by decide +kernel
theorem k_33 : cd_33.all (fun l => l.all (aChk 2 cX2_owns false)) = true := by decide +kernel
theorem k_34 : cd_34.all (fun l => l.all (aChk 2 cX2_urgeFor false)) = true := by decide +kernel
theorem k_35 : cd_35.all (fun l => l.all (aChk 2 cX2_hungerForAnHour false)) = true := by decide +kernel
theorem k_36 : cd_36.all (fun l => l.all (aChk 2 cX2_loseOne false)) = true := by decide +kernel
theorem k_37 : cd_37.all (fun l => l.all (aChk 3 cX3_init true)) = true := by decide +kernel
theorem k_38 : cd_38.all (fun l => l.all (aChk 3 cX3_faultOf false)) = true := by decide +kernel
theorem k_39 : cd_39.all (fun l => l.all (aChk 3 cX3_isChain false)) = true := by decide +kernel
theorem k_40 : cd_40.all (fun l => l.all (aChk 3 cX3_isOperand false)) = true := by decide +kernel
theorem k_41 : cd_41.all (fun l => l.all (aChk 3 cX3_isDenied false)) = true := by decide +kernel
theorem k_42 : cd_42.all (fun l => l.all (aChk 3 cX3_isClosed false)) = true := by decide +kernel
theorem k_43 : cd_43.all (fun l => l.all (aChk 3 cX3_readNumber false)) = true := by decide +kernel
theorem k_44 : cd_44.all (fun l => l.all (aChk 3 cX3_levelOf false)) = true := by decide +kernel
theorem k_45 : cd_45.all (fun l => l.all (aChk 4 cX4_init true)) = true := by decide +kernel
theorem k_46 : cd_46.all (fun l => l.all (aChk 4 cX4_isMissing false)) = true := by decide +kernel
theorem k_47 : cd_47.all (fun l => l.all (aChk 4 cX4_lay false)) = true := by decide +kernel
theorem k_48 : cd_48.all (fun l => l.all (aChk 4 cX4_holds false)) = true := by decide +kernel
theorem k_49 : cd_49.all (fun l => l.all (aChk 4 cX4_write false)) = true := by decide +kernel
theorem k_50 : cd_50.all (fun l => l.all (aChk 5 cX5_init true)) = true := by decide +kernel
theorem k_51 : cd_51.all (fun l => l.all (aChk 5 cX5_arrive false)) = true := by decide +kernel
theorem k_52 : cd_52.all (fun l => l.all (aChk 5 cX5_copyFrom false)) = true := by decide +kernel
theorem k_53 : cd_53.all (fun l => l.all (aChk 5 cX5_canBeTaken false)) = true := by decide +kernel
theorem k_54 : cd_54.all (fun l => l.all (aChk 5 cX5_leave false)) = true := by decide +kernel
theorem k_55 : cd_55.all (fun l => l.all (aChk 5 cX5_comeBack false)) = true := by decide +kernel
theorem k_56 : cd_56.all (fun l => l.all (aChk 5 cX5_grow false)) = true := by decide +kernel
theorem k_57 : cd_57.all (fun l => l.all (aChk 6 cX6_init true)) = true := by decide +kernel
theorem k_58 : cd_58.all (fun l => l.all (aChk 6 cX6_isAnswered false)) = true := by decide +kernel
theorem k_59 : cd_59.all (fun l => l.all (aChk 6 cX6_say false)) = true := by decide +kernel
theorem k_60 : cd_60.all (fun l => l.all (aChk 6 cX6_bearerOf false)) = true := by decide +kernel
theorem k_61 : cd_61.all (fun l => l.all (aChk 6 cX6_begin false)) = true := by decide +kernel
theorem k_62 : cd_62.all (fun l => l.all (aChk 6 cX6_partedIn false)) = true := by decide +kernel
theorem k_63 : cd_63.all (fun l => l.all (aChk 7 cX7_init true)) = true := by decide +kernel
theorem k_64 : cd_64.all (fun l => l.all (aChk 7 cX7_person false)) = true := by decide +kernel
theorem k_65 : cd_65.all (fun l => l.all (aChk 7 cX7_personIs false)) = true := by decide +kernel
theorem k_66 : cd_66.all (fun l => l.all (aChk 7 cX7_become false)) = true := by decide +kernel
theorem k_67 : cd_67.all (fun l => l.all (aChk 7 cX7_as false)) = true := by decide +kernel
theorem k_68 : cd_68.all (fun l => l.all (aChk 7 cX7_feel false)) = true := by decide +kernel
theorem k_69 : cd_69.all (fun l => l.all (aChk 7 cX7_thing false)) = true := by decide +kernel
theorem k_70 : cd_70.all (fun l => l.all (aChk 7 cX7_thingIs false)) = true := by decide +kernel
theorem k_71 : cd_71.all (fun l => l.all (aChk 7 cX7_mark false)) = true := by decide +kernel
theorem k_72 : cd_72.all (fun l => l.all (aChk 7 cX7_anew false)) = true := by decide +kernel
theorem k_73 : cd_73.all (fun l => l.all (aChk 7 cX7_feed false)) = true := by decide +kernel
theorem k_74 : cd_74.all (fun l => l.all (aChk 7 cX7_text false)) = true := by decide +kernel
theorem k_75 : cd_75.all (fun l => l.all (aChk 7 cX7_untell false)) = true := by decide +kernel
theorem k_76 : cd_76.all (fun l => l.all (aChk 7 cX7_law false)) = true := by decide +kernel
theorem k_77 : cd_77.all (fun l => l.all (aChk 7 cX7_urge false)) = true := by decide +kernel
theorem k_78 : cd_78.all (fun l => l.all (aChk 7 cX7_guard false)) = true := by decide +kernel
theorem k_79 : cd_79.all (fun l => l.all (aChk 7 cX7_comes false)) = true := by decide +kernel
theorem k_80 : cd_80.all (fun l => l.all (aChk 7 cX7_hours false)) = true := by decide +kernel
theorem k_81 : cd_81.all (fun l => l.all (aChk 7 cX7_friday false)) = true := by decide +kernel
theorem k_82 : cd_82.all (fun l => l.all (aChk 7 cX7_seed false)) = true := by decide +kernel
theorem k_83 : cd_83.all (fun l => l.all (aChk 7 cX7_wants false)) = true := by decide +kernel
theorem k_84 : cd_84.all (fun l => l.all (aChk 7 cX7_trap false)) = true := by decide +kernel
theorem k_85 : cd_85.all (fun l => l.all (aChk 7 cX7_safest false)) = true := by decide +kernel
theorem k_86 : cd_86.all (fun l => l.all (aChk 7 cX7_lock false)) = true := by decide +kernel
theorem k_87 : cd_87.all (fun l => l.all (aChk 7 cX7_round false)) = true := by decide +kernel
theorem k_88 : cd_88.all (fun l => l.all (aChk 7 cX7_odds false)) = true := by decide +kernel
theorem k_89 : cd_89.all (fun l => l.all (aChk 7 cX7_who false)) = true := by decide +kernel
theorem k_90 : cd_90.all (fun l => l.all (aChk 7 cX7_lost false)) = true := by decide +kernel
theorem k_91 : cd_91.all (fun l => l.all (aChk 7 cX7_oldest false)) = true := by decide +kernel
theorem k_92 : cd_92.all (fun l => l.all (aChk 7 cX7_voice false)) = true := by decide +kernel
theorem k_93 : cd_93.all (fun l => l.all (aChk 7 cX7_body false)) = true := by decide +kernel
theorem k_94 : cd_94.all (fun l => l.all (aChk 7 cX7_sheet false)) = true := by decide +kernel
theorem k_95 : cd_95.all (fun l => l.all (aChk 7 cX7_put false)) = true := by decide +kernel
theorem k_96 : cd_96.all (fun l => l.all (aChk 7 cX7_move false)) = true := by decide +kernel
theorem k_97 : cd_97.all (fun l => l.all (aChk 7 cX7_labels false)) = true := by decide +kernel
theorem k_98 : cd_98.all (fun l => l.all (aChk 7 cX7_judge false)) = true := by decide +kernel
theorem k_99 : cd_99.all (fun l => l.all (aChk 7 cX7_image false)) = true := by decide +kernel
theorem k_100 : cd_100.all (fun l => l.all (aChk 7 cX7_restore false)) = true := by decide +kernel
theorem k_101 : cd_101.all (fun l => l.all (aChk 7 cX7_tell false)) = true := by decide +kernel
theorem k_102 : cd_102.all (fun l => l.all (aChk 7 cX7_check false)) = true := by decide +kernel
theorem k_103 : cd_103.all (fun l => l.all (aChk 7 cX7_count false)) = true := by decide +kernel
theorem k_104 : cd_104.all (fun l => l.all (aChk 7 cX7_told false)) = true := by decide +kernel
theorem k_105 : cd_105.all (fun l => l.all (aChk 7 cX7_refuse false)) = true := by decide +kernel
theorem k_106 : cd_106.all (fun l => l.all (aChk 7 cX7_isIn false)) = true := by decide +kernel
theorem k_107 : cd_107.all (fun l => l.all (aChk 7 cX7_isUse false)) = true := by decide +kernel
theorem k_108 : cd_108.all (fun l => l.all (aChk 7 cX7_isKindAndNumber false)) = true := by decide +kernel
theorem k_109 : cd_109.all (fun l => l.all (aChk 7 cX7_canFeel false)) = true := by decide +kernel
theorem k_110 : cd_110.all (fun l => l.all (aChk 7 cX7_sheetAt false)) = true := by decide +kernel
theorem k_111 : cd_111.all (fun l => l.all (aChk 7 cX7_othersWanting false)) = true := by decide +kernel
theorem k_112 : cd_112.all (fun l => l.all (aChk 7 cX7_locksForPeace false)) = true := by decide +kernel
theorem k_113 : cd_113.all (fun l => l.all (aChk 7 cX7_greatestCommon false)) = true := by decide +kernel
theorem k_114 : cd_114.all (fun l => l.all (aChk 7 cX7_wouldTake false)) = true := by decide +kernel
theorem k_115 : cd_115.all (fun l => l.all (aChk 8 cX8_init true)) = true := by decide +kernel
theorem k_116 : cd_116.all (fun l => l.all (aChk 8 cX8_error false)) = true := by decide +kernel
theorem k_117 : cd_117.all (fun l => l.all (aChk 8 cX8_in false)) = true := by decide +kernel
theorem k_118 : cd_118.all (fun l => l.all (aChk 8 cX8_held false)) = true := by decide +kernel
theorem k_119 : cd_119.all (fun l => l.all (aChk 8 cX8_carry false)) = true := by decide +kernel
theorem k_120 : cd_120.all (fun l => l.all (aChk 8 cX8_layDown false)) = true := by decide +kernel
theorem k_121 : cd_121.all (fun l => l.all (aChk 8 cX8_layBack false)) = true := by decide +kernel
theorem k_122 : cd_122.all (fun l => l.all (aChk 8 cX8_isPerson false)) = true := by decide +kernel
theorem k_123 : cd_123.all (fun l => l.all (aChk 8 cX8_isThing false)) = true := by decide +kernel
theorem k_124 : cd_124.all (fun l => l.all (aChk 8 cX8_its false)) = true := by decide +kernel
theorem k_125 : cd_125.all (fun l => l.all (aChk 8 cX8_lays1 false)) = true := by decide +kernel
theorem k_126 : cd_126.all (fun l => l.all (aChk 8 cX8_of false)) = true := by decide +kernel
theorem k_127 : cd_127.all (fun l => l.all (aChk 8 cX8_lays2 false)) = true := by decide +kernel
theorem k_128 : cd_128.all (fun l => l.all (aChk 8 cX8_change1 false)) = true := by decide +kernel
theorem k_129 : cd_129.all (fun l => l.all (aChk 8 cX8_isThere false)) = true := by decide +kernel
theorem k_130 : cd_130.all (fun l => l.all (aChk 8 cX8_howMany false)) = true := by decide +kernel
theorem k_131 : cd_131.all (fun l => l.all (aChk 8 cX8_feed false)) = true := by decide +kernel
theorem k_132 : cd_132.all (fun l => l.all (aChk 8 cX8_look false)) = true := by decide +kernel
theorem k_133 : cd_133.all (fun l => l.all (aChk 8 cX8_isName false)) = true := by decide +kernel
theorem k_134 : cd_134.all (fun l => l.all (aChk 8 cX8_step1 false)) = true := by decide +kernel
theorem k_135 : cd_135.all (fun l => l.all (aChk 8 cX8_whole false)) = true := by decide +kernel
theorem k_136 : cd_136.all (fun l => l.all (aChk 8 cX8_both false)) = true := by decide +kernel
theorem k_137 : cd_137.all (fun l => l.all (aChk 8 cX8_compared false)) = true := by decide +kernel
theorem k_138 : cd_138.all (fun l => l.all (aChk 8 cX8_sum false)) = true := by decide +kernel
theorem k_139 : cd_139.all (fun l => l.all (aChk 8 cX8_product false)) = true := by decide +kernel
theorem k_140 : cd_140.all (fun l => l.all (aChk 8 cX8_opens false)) = true := by decide +kernel
theorem k_141 : cd_141.all (fun l => l.all (aChk 8 cX8_one false)) = true := by decide +kernel
theorem k_142 : cd_142.all (fun l => l.all (aChk 8 cX8_hasText false)) = true := by decide +kernel
theorem k_143 : cd_143.all (fun l => l.all (aChk 8 cX8_text false)) = true := by decide +kernel
theorem k_144 : cd_144.all (fun l => l.all (aChk 8 cX8_untell false)) = true := by decide +kernel
theorem k_145 : cd_145.all (fun l => l.all (aChk 8 cX8_joined false)) = true := by decide +kernel
theorem k_146 : cd_146.all (fun l => l.all (aChk 8 cX8_worked false)) = true := by decide +kernel
theorem k_147 : cd_147.all (fun l => l.all (aChk 8 cX8_appealTold false)) = true := by decide +kernel
theorem k_148 : cd_148.all (fun l => l.all (aChk 8 cX8_guardTold false)) = true := by decide +kernel
theorem k_149 : cd_149.all (fun l => l.all (aChk 8 cX8_appeal false)) = true := by decide +kernel
theorem k_150 : cd_150.all (fun l => l.all (aChk 8 cX8_guardOf false)) = true := by decide +kernel
theorem k_151 : cd_151.all (fun l => l.all (aChk 8 cX8_asPerson false)) = true := by decide +kernel
theorem k_152 : cd_152.all (fun l => l.all (aChk 8 cX8_asTaker false)) = true := by decide +kernel
theorem k_153 : cd_153.all (fun l => l.all (aChk 8 cX8_asAvenger false)) = true := by decide +kernel
theorem k_154 : cd_154.all (fun l => l.all (aChk 8 cX8_urgeOf false)) = true := by decide +kernel
theorem k_155 : cd_155.all (fun l => l.all (aChk 8 cX8_drawn false)) = true := by decide +kernel
theorem k_156 : cd_156.all (fun l => l.all (aChk 8 cX8_canGo false)) = true := by decide +kernel
theorem k_157 : cd_157.all (fun l => l.all (aChk 8 cX8_wanted false)) = true := by decide +kernel
theorem k_158 : cd_158.all (fun l => l.all (aChk 8 cX8_more false)) = true := by decide +kernel
theorem k_159 : cd_159.all (fun l => l.all (aChk 8 cX8_comesNow false)) = true := by decide +kernel
theorem k_160 : cd_160.all (fun l => l.all (aChk 8 cX8_hourGoes false)) = true := by decide +kernel
theorem k_161 : cd_161.all (fun l => l.all (aChk 8 cX8_draw false)) = true := by decide +kernel
theorem k_162 : cd_162.all (fun l => l.all (aChk 8 cX8_drawnHour false)) = true := by decide +kernel
theorem k_163 : cd_163.all (fun l => l.all (aChk 8 cX8_isKind false)) = true := by decide +kernel
theorem k_164 : cd_164.all (fun l => l.all (aChk 8 cX8_person false)) = true := by decide +kernel
theorem k_165 : cd_165.all (fun l => l.all (aChk 8 cX8_hisThings false)) = true := by decide +kernel
theorem k_166 : cd_166.all (fun l => l.all (aChk 8 cX8_personIs false)) = true := by decide +kernel
theorem k_167 : cd_167.all (fun l => l.all (aChk 8 cX8_become false)) = true := by decide +kernel
theorem k_168 : cd_168.all (fun l => l.all (aChk 8 cX8_as false)) = true := by decide +kernel
theorem k_169 : cd_169.all (fun l => l.all (aChk 8 cX8_feel false)) = true := by decide +kernel
theorem k_170 : cd_170.all (fun l => l.all (aChk 8 cX8_greatest false)) = true := by decide +kernel
theorem k_171 : cd_171.all (fun l => l.all (aChk 8 cX8_thing false)) = true := by decide +kernel
theorem k_172 : cd_172.all (fun l => l.all (aChk 8 cX8_thingIs false)) = true := by decide +kernel
theorem k_173 : cd_173.all (fun l => l.all (aChk 8 cX8_mark false)) = true := by decide +kernel
theorem k_174 : cd_174.all (fun l => l.all (aChk 8 cX8_anew false)) = true := by decide +kernel
theorem k_175 : cd_175.all (fun l => l.all (aChk 8 cX8_law false)) = true := by decide +kernel
theorem k_176 : cd_176.all (fun l => l.all (aChk 8 cX8_urge false)) = true := by decide +kernel
theorem k_177 : cd_177.all (fun l => l.all (aChk 8 cX8_guard false)) = true := by decide +kernel
theorem k_178 : cd_178.all (fun l => l.all (aChk 8 cX8_comes false)) = true := by decide +kernel
theorem k_179 : cd_179.all (fun l => l.all (aChk 8 cX8_hours false)) = true := by decide +kernel
theorem k_180 : cd_180.all (fun l => l.all (aChk 8 cX8_friday false)) = true := by decide +kernel
theorem k_181 : cd_181.all (fun l => l.all (aChk 8 cX8_seed false)) = true := by decide +kernel
theorem k_182 : cd_182.all (fun l => l.all (aChk 8 cX8_wants false)) = true := by decide +kernel
theorem k_183 : cd_183.all (fun l => l.all (aChk 8 cX8_trap false)) = true := by decide +kernel
theorem k_184 : cd_184.all (fun l => l.all (aChk 8 cX8_othersWant false)) = true := by decide +kernel
theorem k_185 : cd_185.all (fun l => l.all (aChk 8 cX8_safest false)) = true := by decide +kernel
theorem k_186 : cd_186.all (fun l => l.all (aChk 8 cX8_isPeace false)) = true := by decide +kernel
theorem k_187 : cd_187.all (fun l => l.all (aChk 8 cX8_bitsOf false)) = true := by decide +kernel
theorem k_188 : cd_188.all (fun l => l.all (aChk 8 cX8_lock false)) = true := by decide +kernel
theorem k_189 : cd_189.all (fun l => l.all (aChk 8 cX8_robs false)) = true := by decide +kernel
theorem k_190 : cd_190.all (fun l => l.all (aChk 8 cX8_round false)) = true := by decide +kernel
theorem k_191 : cd_191.all (fun l => l.all (aChk 8 cX8_divisor false)) = true := by decide +kernel
theorem k_192 : cd_192.all (fun l => l.all (aChk 8 cX8_odds false)) = true := by decide +kernel
theorem k_193 : cd_193.all (fun l => l.all (aChk 8 cX8_who false)) = true := by decide +kernel
theorem k_194 : cd_194.all (fun l => l.all (aChk 8 cX8_lost false)) = true := by decide +kernel
theorem k_195 : cd_195.all (fun l => l.all (aChk 8 cX8_oldest false)) = true := by decide +kernel
theorem k_196 : cd_196.all (fun l => l.all (aChk 8 cX8_begins false)) = true := by decide +kernel
theorem k_197 : cd_197.all (fun l => l.all (aChk 8 cX8_above false)) = true := by decide +kernel
theorem k_198 : cd_198.all (fun l => l.all (aChk 8 cX8_kindNow false)) = true := by decide +kernel
theorem k_199 : cd_199.all (fun l => l.all (aChk 8 cX8_mNow false)) = true := by decide +kernel
theorem k_200 : cd_200.all (fun l => l.all (aChk 8 cX8_sniffsAs false)) = true := by decide +kernel
theorem k_201 : cd_201.all (fun l => l.all (aChk 8 cX8_marksAs false)) = true := by decide +kernel
theorem k_202 : cd_202.all (fun l => l.all (aChk 8 cX8_swearsAs false)) = true := by decide +kernel
theorem k_203 : cd_203.all (fun l => l.all (aChk 8 cX8_partsAs false)) = true := by decide +kernel
theorem k_204 : cd_204.all (fun l => l.all (aChk 8 cX8_voice false)) = true := by decide +kernel
theorem k_205 : cd_205.all (fun l => l.all (aChk 8 cX8_body false)) = true := by decide +kernel
theorem k_206 : cd_206.all (fun l => l.all (aChk 8 cX8_isSheet false)) = true := by decide +kernel
theorem k_207 : cd_207.all (fun l => l.all (aChk 8 cX8_sheet false)) = true := by decide +kernel
theorem k_208 : cd_208.all (fun l => l.all (aChk 8 cX8_put false)) = true := by decide +kernel
theorem k_209 : cd_209.all (fun l => l.all (aChk 8 cX8_move false)) = true := by decide +kernel
theorem k_210 : cd_210.all (fun l => l.all (aChk 8 cX8_lacks false)) = true := by decide +kernel
theorem k_211 : cd_211.all (fun l => l.all (aChk 8 cX8_labels false)) = true := by decide +kernel
theorem k_212 : cd_212.all (fun l => l.all (aChk 8 cX8_judge false)) = true := by decide +kernel
theorem k_213 : cd_213.all (fun l => l.all (aChk 8 cX8_image false)) = true := by decide +kernel
theorem k_214 : cd_214.all (fun l => l.all (aChk 8 cX8_restore false)) = true := by decide +kernel
theorem k_215 : cd_215.all (fun l => l.all (aChk 8 cX8_tell false)) = true := by decide +kernel
theorem k_216 : cd_216.all (fun l => l.all (aChk 8 cX8_check false)) = true := by decide +kernel
theorem k_217 : cd_217.all (fun l => l.all (aChk 8 cX8_count false)) = true := by decide +kernel
theorem k_218 : cd_218.all (fun l => l.all (aChk 8 cX8_told false)) = true := by decide +kernel
theorem k_219 : cd_219.all (fun l => l.all (aChk 10 cJ6_bitCount_0f7a4 false)) = true := by decide +kernel
theorem k_220 : cd_220.all (fun l => l.all (aChk 11 cJ7_fill_53178 false)) = true := by decide +kernel
theorem k_221 : cd_221.all (fun l => l.all (aChk 12 cJ0_indexOf_0f7a4 false)) = true := by decide +kernel
theorem k_222 : cd_222.all (fun l => l.all (aChk 12 cJ0_indexOf_7cf53 false)) = true := by decide +kernel
theorem k_223 : cd_223.all (fun l => l.all (aChk 12 cJ0_isLatin1_aae02 false)) = true := by decide +kernel
theorem k_224 : cd_224.all (fun l => l.all (aChk 12 cJ0_length_8abf5 false)) = true := by decide +kernel
theorem k_225 : cd_225.all (fun l => l.all (aChk 12 cJ0_coder_7d493 false)) = true := by decide +kernel
theorem k_226 : cd_226.all (fun l => l.all (aChk 13 cJ1_indexOf_4cfef false)) = true := by decide +kernel
theorem k_227 : cd_227.all (fun l => l.all (aChk 13 cJ1_canEncode_9a6ad false)) = true := by decide +kernel
theorem k_228 : cd_228.all (fun l => l.all (aChk 13 cJ1_indexOfChar_4cfef false)) = true := by decide +kernel
set_option maxRecDepth 100000 in
theorem aCd_ok : ∀ e ∈ aMt.zip aOc, e.1.2.2.2.2.2.2.2.all (fun l => l.all (aChk e.2 e.1.2.1 (e.1.2.2.2.2.2.2.1 == 2))) = true :=
  List.forall_mem_cons.mpr ⟨k_0, List.forall_mem_cons.mpr ⟨k_1, List.forall_mem_cons.mpr ⟨k_2, List.forall_mem_cons.mpr ⟨k_3, List.forall_mem_cons.mpr ⟨k_4, List.forall_mem_cons.mpr ⟨k_5, List.forall_mem_cons.mpr ⟨k_6, List.forall_mem_cons.mpr ⟨k_7, List.forall_mem_cons.mpr ⟨k_8, List.forall_mem_cons.mpr ⟨k_9, List.forall_mem_cons.mpr ⟨k_10, List.forall_mem_cons.mpr ⟨k_11, List.forall_mem_cons.mpr ⟨k_12, List.forall_mem_cons.mpr ⟨k_13, List.forall_mem_cons.mpr ⟨k_14, List.forall_mem_cons.mpr ⟨k_15, List.forall_mem_cons.mpr ⟨k_16, List.forall_mem_cons.mpr ⟨k_17, List.forall_mem_cons.mpr ⟨k_18, List.forall_mem_cons.mpr ⟨k_19, List.forall_mem_cons.mpr ⟨k_20, List.forall_mem_cons.mpr ⟨k_21, List.forall_mem_cons.mpr ⟨k_22, List.forall_mem_cons.mpr ⟨k_23, List.forall_mem_cons.mpr ⟨k_24, List.forall_mem_cons.mpr ⟨k_25, List.forall_mem_cons.mpr ⟨k_26, List.forall_mem_cons.mpr ⟨k_27, List.forall_mem_cons.mpr ⟨k_28, List.forall_mem_cons.mpr ⟨k_29, List.forall_mem_cons.mpr ⟨k_30, List.forall_mem_cons.mpr ⟨k_31, List.forall_mem_cons.mpr ⟨k_32, List.forall_mem_cons.mpr ⟨k_33, List.forall_mem_cons.mpr ⟨k_34, List.forall_mem_cons.mpr ⟨k_35, List.forall_mem_cons.mpr ⟨k_36, List.forall_mem_cons.mpr ⟨k_37, List.forall_mem_cons.mpr ⟨k_38, List.forall_mem_cons.mpr ⟨k_39, List.forall_mem_cons.mpr ⟨k_40, List.forall_mem_cons.mpr ⟨k_41, List.forall_mem_cons.mpr ⟨k_42, List.forall_mem_cons.mpr ⟨k_43, List.forall_mem_cons.mpr ⟨k_44, List.forall_mem_cons.mpr ⟨k_45, List.forall_mem_cons.mpr ⟨k_46, List.forall_mem_cons.mpr ⟨k_47, List.forall_mem_cons.mpr ⟨k_48, List.forall_mem_cons.mpr ⟨k_49, List.forall_mem_cons.mpr ⟨k_50, List.forall_mem_cons.mpr ⟨k_51, List.forall_mem_cons.mpr ⟨k_52, List.forall_mem_cons.mpr ⟨k_53, List.forall_mem_cons.mpr ⟨k_54, List.forall_mem_cons.mpr ⟨k_55, List.forall_mem_cons.mpr ⟨k_56, List.forall_mem_cons.mpr ⟨k_57, List.forall_mem_cons.mpr ⟨k_58, List.forall_mem_cons.mpr ⟨k_59, List.forall_mem_cons.mpr ⟨k_60, List.forall_mem_cons.mpr ⟨k_61, List.forall_mem_cons.mpr ⟨k_62, List.forall_mem_cons.mpr ⟨k_63, List.forall_mem_cons.mpr ⟨k_64, List.forall_mem_cons.mpr ⟨k_65, List.forall_mem_cons.mpr ⟨k_66, List.forall_mem_cons.mpr ⟨k_67, List.forall_mem_cons.mpr ⟨k_68, List.forall_mem_cons.mpr ⟨k_69, List.forall_mem_cons.mpr ⟨k_70, List.forall_mem_cons.mpr ⟨k_71, List.forall_mem_cons.mpr ⟨k_72, List.forall_mem_cons.mpr ⟨k_73, List.forall_mem_cons.mpr ⟨k_74, List.forall_mem_cons.mpr ⟨k_75, List.forall_mem_cons.mpr ⟨k_76, List.forall_mem_cons.mpr ⟨k_77, List.forall_mem_cons.mpr ⟨k_78, List.forall_mem_cons.mpr ⟨k_79, List.forall_mem_cons.mpr ⟨k_80, List.forall_mem_cons.mpr ⟨k_81, List.forall_mem_cons.mpr ⟨k_82, List.forall_mem_cons.mpr ⟨k_83, List.forall_mem_cons.mpr ⟨k_84, List.forall_mem_cons.mpr ⟨k_85, List.forall_mem_cons.mpr ⟨k_86, List.forall_mem_cons.mpr ⟨k_87, List.forall_mem_cons.mpr ⟨k_88, List.forall_mem_cons.mpr ⟨k_89, List.forall_mem_cons.mpr ⟨k_90, List.forall_mem_cons.mpr ⟨k_91, List.forall_mem_cons.mpr ⟨k_92, List.forall_mem_cons.mpr ⟨k_93, List.forall_mem_cons.mpr ⟨k_94, List.forall_mem_cons.mpr ⟨k_95, List.forall_mem_cons.mpr ⟨k_96, List.forall_mem_cons.mpr ⟨k_97, List.forall_mem_cons.mpr ⟨k_98, List.forall_mem_cons.mpr ⟨k_99, List.forall_mem_cons.mpr ⟨k_100, List.forall_mem_cons.mpr ⟨k_101, List.forall_mem_cons.mpr ⟨k_102, List.forall_mem_cons.mpr ⟨k_103, List.forall_mem_cons.mpr ⟨k_104, List.forall_mem_cons.mpr ⟨k_105, List.forall_mem_cons.mpr ⟨k_106, List.forall_mem_cons.mpr ⟨k_107, List.forall_mem_cons.mpr ⟨k_108, List.forall_mem_cons.mpr ⟨k_109, List.forall_mem_cons.mpr ⟨k_110, List.forall_mem_cons.mpr ⟨k_111, List.forall_mem_cons.mpr ⟨k_112, List.forall_mem_cons.mpr ⟨k_113, List.forall_mem_cons.mpr ⟨k_114, List.forall_mem_cons.mpr ⟨k_115, List.forall_mem_cons.mpr ⟨k_116, List.forall_mem_cons.mpr ⟨k_117, List.forall_mem_cons.mpr ⟨k_118, List.forall_mem_cons.mpr ⟨k_119, List.forall_mem_cons.mpr ⟨k_120, List.forall_mem_cons.mpr ⟨k_121, List.forall_mem_cons.mpr ⟨k_122, List.forall_mem_cons.mpr ⟨k_123, List.forall_mem_cons.mpr ⟨k_124, List.forall_mem_cons.mpr ⟨k_125, List.forall_mem_cons.mpr ⟨k_126, List.forall_mem_cons.mpr ⟨k_127, List.forall_mem_cons.mpr ⟨k_128, List.forall_mem_cons.mpr ⟨k_129, List.forall_mem_cons.mpr ⟨k_130, List.forall_mem_cons.mpr ⟨k_131, List.forall_mem_cons.mpr ⟨k_132, List.forall_mem_cons.mpr ⟨k_133, List.forall_mem_cons.mpr ⟨k_134, List.forall_mem_cons.mpr ⟨k_135, List.forall_mem_cons.mpr ⟨k_136, List.forall_mem_cons.mpr ⟨k_137, List.forall_mem_cons.mpr ⟨k_138, List.forall_mem_cons.mpr ⟨k_139, List.forall_mem_cons.mpr ⟨k_140, List.forall_mem_cons.mpr ⟨k_141, List.forall_mem_cons.mpr ⟨k_142, List.forall_mem_cons.mpr ⟨k_143, List.forall_mem_cons.mpr ⟨k_144, List.forall_mem_cons.mpr ⟨k_145, List.forall_mem_cons.mpr ⟨k_146, List.forall_mem_cons.mpr ⟨k_147, List.forall_mem_cons.mpr ⟨k_148, List.forall_mem_cons.mpr ⟨k_149, List.forall_mem_cons.mpr ⟨k_150, List.forall_mem_cons.mpr ⟨k_151, List.forall_mem_cons.mpr ⟨k_152, List.forall_mem_cons.mpr ⟨k_153, List.forall_mem_cons.mpr ⟨k_154, List.forall_mem_cons.mpr ⟨k_155, List.forall_mem_cons.mpr ⟨k_156, List.forall_mem_cons.mpr ⟨k_157, List.forall_mem_cons.mpr ⟨k_158, List.forall_mem_cons.mpr ⟨k_159, List.forall_mem_cons.mpr ⟨k_160, List.forall_mem_cons.mpr ⟨k_161, List.forall_mem_cons.mpr ⟨k_162, List.forall_mem_cons.mpr ⟨k_163, List.forall_mem_cons.mpr ⟨k_164, List.forall_mem_cons.mpr ⟨k_165, List.forall_mem_cons.mpr ⟨k_166, List.forall_mem_cons.mpr ⟨k_167, List.forall_mem_cons.mpr ⟨k_168, List.forall_mem_cons.mpr ⟨k_169, List.forall_mem_cons.mpr ⟨k_170, List.forall_mem_cons.mpr ⟨k_171, List.forall_mem_cons.mpr ⟨k_172, List.forall_mem_cons.mpr ⟨k_173, List.forall_mem_cons.mpr ⟨k_174, List.forall_mem_cons.mpr ⟨k_175, List.forall_mem_cons.mpr ⟨k_176, List.forall_mem_cons.mpr ⟨k_177, List.forall_mem_cons.mpr ⟨k_178, List.forall_mem_cons.mpr ⟨k_179, List.forall_mem_cons.mpr ⟨k_180, List.forall_mem_cons.mpr ⟨k_181, List.forall_mem_cons.mpr ⟨k_182, List.forall_mem_cons.mpr ⟨k_183, List.forall_mem_cons.mpr ⟨k_184, List.forall_mem_cons.mpr ⟨k_185, List.forall_mem_cons.mpr ⟨k_186, List.forall_mem_cons.mpr ⟨k_187, List.forall_mem_cons.mpr ⟨k_188, List.forall_mem_cons.mpr ⟨k_189, List.forall_mem_cons.mpr ⟨k_190, List.forall_mem_cons.mpr ⟨k_191, List.forall_mem_cons.mpr ⟨k_192, List.forall_mem_cons.mpr ⟨k_193, List.forall_mem_cons.mpr ⟨k_194, List.forall_mem_cons.mpr ⟨k_195, List.forall_mem_cons.mpr ⟨k_196, List.forall_mem_cons.mpr ⟨k_197, List.forall_mem_cons.mpr ⟨k_198, List.forall_mem_cons.mpr ⟨k_199, List.forall_mem_cons.mpr ⟨k_200, List.forall_mem_cons.mpr ⟨k_201, List.forall_mem_cons.mpr ⟨k_202, List.forall_mem_cons.mpr ⟨k_203, List.forall_mem_cons.mpr ⟨k_204, List.forall_mem_cons.mpr ⟨k_205, List.forall_mem_cons.mpr ⟨k_206, List.forall_mem_cons.mpr ⟨k_207, List.forall_mem_cons.mpr ⟨k_208, List.forall_mem_cons.mpr ⟨k_209, List.forall_mem_cons.mpr ⟨k_210, List.forall_mem_cons.mpr ⟨k_211, List.forall_mem_cons.mpr ⟨k_212, List.forall_mem_cons.mpr ⟨k_213, List.forall_mem_cons.mpr ⟨k_214, List.forall_mem_cons.mpr ⟨k_215, List.forall_mem_cons.mpr ⟨k_216, List.forall_mem_cons.mpr ⟨k_217, List.forall_mem_cons.mpr ⟨k_218, List.forall_mem_cons.mpr ⟨k_219, List.forall_mem_cons.mpr ⟨k_220, List.forall_mem_cons.mpr ⟨k_221, List.forall_mem_cons.mpr ⟨k_222, List.forall_mem_cons.mpr ⟨k_223, List.forall_mem_cons.mpr ⟨k_224, List.forall_mem_cons.mpr ⟨k_225, List.forall_mem_cons.mpr ⟨k_226, List.forall_mem_cons.mpr ⟨k_227, List.forall_mem_cons.mpr ⟨k_228, fun _ h => absurd h List.not_mem_nil⟩⟩⟩⟩⟩⟩⟩⟩⟩⟩⟩⟩⟩⟩⟩⟩⟩⟩⟩⟩⟩⟩⟩⟩⟩⟩⟩⟩⟩⟩⟩⟩⟩⟩⟩⟩⟩⟩⟩⟩⟩⟩⟩⟩⟩⟩⟩⟩⟩⟩⟩⟩⟩⟩⟩⟩⟩⟩⟩⟩⟩⟩⟩⟩⟩⟩⟩⟩⟩⟩⟩⟩⟩⟩⟩⟩⟩⟩⟩⟩⟩⟩⟩⟩⟩⟩⟩⟩⟩⟩⟩⟩⟩⟩⟩⟩⟩⟩⟩⟩⟩⟩⟩⟩⟩⟩⟩⟩⟩⟩⟩⟩⟩⟩⟩⟩⟩⟩⟩⟩⟩⟩⟩⟩⟩⟩⟩⟩⟩⟩⟩⟩⟩⟩⟩⟩⟩⟩⟩⟩⟩⟩⟩⟩⟩⟩⟩⟩⟩⟩⟩⟩⟩⟩⟩⟩⟩⟩⟩⟩⟩⟩⟩⟩⟩⟩⟩⟩⟩⟩⟩⟩⟩⟩⟩⟩⟩⟩⟩⟩⟩⟩⟩⟩⟩⟩⟩⟩⟩⟩⟩⟩⟩⟩⟩⟩⟩⟩⟩⟩⟩⟩⟩⟩⟩⟩⟩⟩⟩⟩⟩⟩⟩⟩⟩⟩⟩⟩⟩⟩⟩⟩⟩⟩⟩⟩⟩⟩⟩
end
section
/-! the same for the law -/
theorem kl_0 : ((cd_law.drop 0).take 6).all (fun l => l.all (aChk 9 code false)) = true := by decide +kernel
theorem kl_6 : ((cd_law.drop 6).take 6).all (fun l => l.all (aChk 9 code false)) = true := by decide +kernel
theorem kl_12 : ((cd_law.drop 12).take 6).all (fun l => l.all (aChk 9 code false)) = true := by decide +kernel
theorem kl_18 : ((cd_law.drop 18).take 6).all (fun l => l.all (aChk 9 code false)) = true := by decide +kernel
theorem kl_24 : ((cd_law.drop 24).take 6).all (fun l => l.all (aChk 9 code false)) = true := by decide +kernel
theorem kl_30 : ((cd_law.drop 30).take 6).all (fun l => l.all (aChk 9 code false)) = true := by decide +kernel
theorem kl_36 : ((cd_law.drop 36).take 6).all (fun l => l.all (aChk 9 code false)) = true := by decide +kernel
theorem kl_42 : ((cd_law.drop 42).take 6).all (fun l => l.all (aChk 9 code false)) = true := by decide +kernel
theorem kl_48 : ((cd_law.drop 48).take 6).all (fun l => l.all (aChk 9 code false)) = true := by decide +kernel
theorem kl_54 : ((cd_law.drop 54).take 6).all (fun l => l.all (aChk 9 code false)) = true := by decide +kernel
theorem kl_60 : ((cd_law.drop 60).take 6).all (fun l => l.all (aChk 9 code false)) = true := by decide +kernel
theorem kl_66 : ((cd_law.drop 66).take 6).all (fun l => l.all (aChk 9 code false)) = true := by decide +kernel
theorem kl_72 : ((cd_law.drop 72).take 6).all (fun l => l.all (aChk 9 code false)) = true := by decide +kernel
theorem kl_78 : ((cd_law.drop 78).take 6).all (fun l => l.all (aChk 9 code false)) = true := by decide +kernel
theorem kl_84 : ((cd_law.drop 84).take 6).all (fun l => l.all (aChk 9 code false)) = true := by decide +kernel
theorem kl_90 : ((cd_law.drop 90).take 6).all (fun l => l.all (aChk 9 code false)) = true := by decide +kernel
end
section
/-! the interpreter's heap in the machine's: addresses, cells, worlds -/
def aAd (base : Nat) (pre : Nat → Nat) (i : Nat) : Nat := if i < 1000 then base + i else pre i
def aVal (ad : Nat → Nat) : Value → Value
  | .ref a => .ref (ad a)
  | v => v
theorem aVal_cat (ad : Nat → Nat) (v : Value) : (aVal ad v).category = v.category := by cases v <;> rfl
def aLv (ad : Nat → Nat) (ls : aLs) : List (Nat × Value) := (List.range ls.length).filterMap (fun i => match ls[i]? with
  | some (some v) => some (i, aVal ad v)
  | _ => none)
theorem aLv_mem {ad : Nat → Nat} {ls : aLs} {q : Nat × Value} : q ∈ aLv ad ls ↔ ∃ v, ls[q.1]? = some (some v) ∧ q.2 = aVal ad v := by
  obtain ⟨i, w⟩ := q
  constructor
  · intro h
    obtain ⟨j, -, hj⟩ := List.mem_filterMap.mp h
    split at hj
    · rename_i v hv
      cases hj
      exact ⟨v, hv, rfl⟩
    · cases hj
  · rintro ⟨v, hv, hw⟩
    refine List.mem_filterMap.mpr ⟨i, List.mem_range.mpr (List.getElem?_eq_some_iff.mp hv).1, ?_⟩
    dsimp only at hv hw
    rw [hv, hw]
theorem aLv_get {ad : Nat → Nat} {ls : aLs} {lsA : Array Slot} {nL i : Nat} {v : Value} (h : lv_has lsA nL (aLv ad ls)) (hi : ls[i]? = some (some v)) : lsA[i]? = some (.val (aVal ad v)) := h.2.2 (i, aVal ad v) (aLv_mem.mpr ⟨v, hi, rfl⟩)
theorem aLv_sub {lsA : Array Slot} {nL : Nat} {l l' : List (Nat × Value)} (h : lv_has lsA nL l) (hs : ∀ q ∈ l', q ∈ l) : lv_has lsA nL l' := ⟨h.1, h.2.1, fun q hq => h.2.2 q (hs q hq)⟩
theorem aPush_spec {v : Value} {ls ls' : aLs} {i : Nat} (h : aPush v ls i = some ls') : i < ls.length ∧ ls' = ls.set i (some v) ∧ (∀ j w, i = j + 1 → ls[j]? = some (some w) → w.category ≠ 2) := by
  unfold aPush at h
  by_cases hi : i < ls.length
  · rw [if_pos hi] at h
    cases i with
    | zero =>
      cases h
      exact ⟨hi, rfl, fun j w e => by omega⟩
    | succ j =>
      dsimp only at h
      cases hj : ls[j]? with
      | none => rw [List.getElem?_eq_none_iff] at hj; omega
      | some o =>
        rw [hj] at h
        cases o with
        | none =>
          cases h
          exact ⟨hi, rfl, fun j' w' e hw' => by obtain rfl : j = j' := by omega
                                                rw [hj] at hw'; cases hw'⟩
        | some w =>
          dsimp only at h
          by_cases hc : w.category = 2
          · rw [if_pos hc] at h; cases h
          · rw [if_neg hc] at h
            cases h
            exact ⟨hi, rfl, fun j' w' e hw' => by obtain rfl : j = j' := by omega
                                                  rw [hj] at hw'; cases hw'; exact hc⟩
  · rw [if_neg hi] at h; cases h
theorem aLv_push {ad : Nat → Nat} {v : Value} {ls ls' : aLs} {i : Nat} (h : aPush v ls i = some ls') : ∀ q ∈ aLv ad ls', q ∈ (i, aVal ad v) :: (aLv ad ls).filter (fun q => !(q.1 == i) && !(q.1 + 1 == i && q.2.category == 2)) := by
  obtain ⟨hi, rfl, hw⟩ := aPush_spec h
  intro q hq
  obtain ⟨w, h1, h2⟩ := aLv_mem.mp hq
  obtain ⟨j, u⟩ := q
  dsimp only at h1 h2
  rw [List.getElem?_set] at h1
  by_cases hj : i = j
  · subst hj
    rw [if_pos rfl, if_pos hi] at h1
    cases h1
    rw [h2]
    exact List.mem_cons_self
  · rw [if_neg hj] at h1
    refine List.mem_cons_of_mem _ (List.mem_filter.mpr ⟨aLv_mem.mpr ⟨w, h1, h2⟩, ?_⟩)
    have hc : ¬ (j + 1 = i ∧ u.category = 2) := fun ⟨e1, e2⟩ => hw j w e1.symm h1 (by rw [← aVal_cat ad w, ← h2]; exact e2)
    simp only [Bool.and_eq_true, Bool.not_eq_true', beq_eq_false_iff_ne, ne_eq, Bool.and_eq_false_imp, beq_iff_eq]
    exact ⟨fun e => hj e.symm, fun e1 e2 => hc ⟨e1, e2⟩⟩
theorem aPush_len {v : Value} {ls ls' : aLs} {i : Nat} (h : aPush v ls i = some ls') : ls'.length = ls.length := by
  obtain ⟨-, rfl, -⟩ := aPush_spec h
  exact List.length_set
/-- kinds of arrays -/
def aAT (kd : Nat) : FieldType := if kd = 20 then .int else if kd = 21 then .byte else .object (aO (aKc kd))
def aCA (U : State) (kd : Nat) : ClassId := (U.vm.findClass ("[" ++ (aAT kd).toString)).getD 0
def aEnc (ad : Nat → Nat) (cA : Nat → ClassId) (I : Nat → Nat → Int32) (P : List (List (Option Nat))) (i : Nat) (q : Nat × Nat) : va_E :=
  if q.1 < 20 then .inr (q.1, (List.range q.2).map (fun k => if aFk q.1 k = 2 then va_rf ((aP P i k).map ad) else .int (I i k)))
  else if q.1 < 22 then .inl (cA q.1, q.2, .inl (I i))
  else .inl (cA q.1, q.2, .inr (.inr (.inr (.inr (fun j => (aP P i j).map ad)))))
def aWs (ad : Nat → Nat) (cA : Nat → ClassId) (H : aH) : va_W := H.1.mapIdx (fun i q => (ad i, aEnc ad cA H.2.1 H.2.2 i q))
def aSz (H : aH) : Nat := (H.1.map (fun q => q.2)).sum
def aA (base : Nat) : Nat → Prop := fun q => base ≤ q
theorem aWs_get {ad : Nat → Nat} {cA : Nat → ClassId} {H : aH} {i : Nat} {q : Nat × Nat} (h : H.1[i]? = some q) : (aWs ad cA H)[i]? = some (ad i, aEnc ad cA H.2.1 H.2.2 i q) := by
  rw [aWs, List.getElem?_mapIdx, h]; rfl
theorem aWs_inv {ad : Nat → Nat} {cA : Nat → ClassId} {H : aH} {i : Nat} {e : Nat × va_E} (h : (aWs ad cA H)[i]? = some e) : ∃ q, H.1[i]? = some q ∧ e = (ad i, aEnc ad cA H.2.1 H.2.2 i q) := by
  rw [aWs, List.getElem?_mapIdx] at h
  cases hq : H.1[i]? with
  | none => rw [hq] at h; cases h
  | some q => rw [hq] at h; cases h; exact ⟨q, rfl, rfl⟩
theorem aWs_D {base : Nat} {pre : Nat → Nat} {cA : Nat → ClassId} {H : aH} (hl : H.1.length ≤ 1000) : va_D (aA base) (aWs (aAd base pre) cA H) := by
  refine ⟨fun i j p q hi hj e => ?_, fun k q hk => ?_⟩
  · obtain ⟨x, hx, rfl⟩ := aWs_inv hi
    obtain ⟨y, hy, rfl⟩ := aWs_inv hj
    have h1 := (List.getElem?_eq_some_iff.mp hx).1
    have h2 := (List.getElem?_eq_some_iff.mp hy).1
    simp only [aAd, if_pos (show i < 1000 by omega), if_pos (show j < 1000 by omega)] at e
    omega
  · obtain ⟨x, hx, rfl⟩ := aWs_inv hk
    have h1 := (List.getElem?_eq_some_iff.mp hx).1
    simp only [aAd, if_pos (show k < 1000 by omega), aA]
    omega
theorem aWs_set {ad : Nat → Nat} {cA : Nat → ClassId} {H : aH} {I : Nat → Nat → Int32} {P : List (List (Option Nat))} {a : Nat} {q : Nat × Nat} (h : H.1[a]? = some q)
    (ho : ∀ i q, i ≠ a → aEnc ad cA I P i q = aEnc ad cA H.2.1 H.2.2 i q) : (aWs ad cA H).set a (ad a, aEnc ad cA I P a q) = aWs ad cA (H.1, I, P) := by
  refine List.ext_getElem? fun i => ?_
  rw [List.getElem?_set, aWs, aWs, List.getElem?_mapIdx, List.getElem?_mapIdx]
  by_cases hi : a = i
  · subst hi
    rw [if_pos rfl, if_pos (by rw [List.length_mapIdx]; exact (List.getElem?_eq_some_iff.mp h).1), h]; rfl
  · rw [if_neg hi]
    dsimp only
    cases hq : H.1[i]? with
    | none => rfl
    | some x => simp only [Option.map_some]; rw [ho i x (fun e => hi e.symm)]
theorem aEnc_int {ad : Nat → Nat} {cA : Nat → ClassId} {I : Nat → Nat → Int32} {P : List (List (Option Nat))} {i a k : Nat} {x : Int32} {q : Nat × Nat} (h : i ≠ a) : aEnc ad cA (aUpd I a k x) P i q = aEnc ad cA I P i q := by
  have : aUpd I a k x i = I i := by funext j; simp [aUpd, h]
  simp only [aEnc, this]
theorem aRange_set {α : Type} {n k : Nat} {f g : Nat → α} {v : α} (hv : g k = v) (ho : ∀ j, j ≠ k → g j = f j) : ((List.range n).map f).set k v = (List.range n).map g := by
  refine List.ext_getElem? fun i => ?_
  rw [List.getElem?_set]
  by_cases hi : k = i
  · subst hi
    rw [if_pos rfl]
    by_cases hk : k < n
    · rw [if_pos (by simpa using hk)]; simp [hk, hv]
    · rw [if_neg (by simpa using hk)]; simp [hk]
  · rw [if_neg hi]
    by_cases hj : i < n
    · simp [hj, ho i (fun e => hi e.symm)]
    · simp [hj]
theorem aSetP_get {P : List (List (Option Nat))} {a f : Nat} {v : Option Nat} (hf : f < (P.getD a []).length) (i j : Nat) : aP (aSetP P a f v) i j = if i = a ∧ j = f then v else aP P i j := by
  have ha : a < P.length := by
    rcases Nat.lt_or_ge a P.length with h | h
    · exact h
    · rw [List.getD_eq_getElem?_getD, List.getElem?_eq_none h] at hf; simp at hf
  unfold aP aSetP
  simp only [List.getD_eq_getElem?_getD, List.getElem?_set]
  by_cases hi : a = i
  · subst hi
    simp only [ha, if_true, if_pos, Option.getD_some, List.getElem?_set]
    by_cases hj : f = j
    · subst hj
      have : f < (P[a]?.getD []).length := by rw [List.getD_eq_getElem?_getD] at hf; exact hf
      simp [this]
    · have : ¬ j = f := fun e => hj e.symm
      simp [hj, this]
  · have : ¬ i = a := fun e => hi e.symm
    simp [hi, this]
theorem aSetP_len {P : List (List (Option Nat))} {a f : Nat} {v : Option Nat} : (aSetP P a f v).length = P.length := by
  unfold aSetP; exact List.length_set
theorem aEnc_ref {ad : Nat → Nat} {cA : Nat → ClassId} {I : Nat → Nat → Int32} {P : List (List (Option Nat))} {i a k : Nat} {x : Option Nat} {q : Nat × Nat} (hk : k < (P.getD a []).length) (h : i ≠ a) : aEnc ad cA I (aSetP P a k x) i q = aEnc ad cA I P i q := by
  have : ∀ j, aP (aSetP P a k x) i j = aP P i j := fun j => by rw [aSetP_get hk, if_neg (fun e => h e.1)]
  simp only [aEnc, this]
/-- a new cell -/
theorem aWs_new {ad : Nat → Nat} {cA : Nat → ClassId} {H : aH} {kd n : Nat} (hP : H.2.2.length = H.1.length) : aWs ad cA (aNew kd n H) = aWs ad cA H ++ [(ad H.1.length, aEnc ad cA (aNew kd n H).2.1 (aNew kd n H).2.2 H.1.length (kd, n))] := by
  have hI : ∀ i, i ≠ H.1.length → (aNew kd n H).2.1 i = H.2.1 i := fun i hi => by funext j; simp [aNew, hi]
  have hPP : ∀ i j, i < H.1.length → aP (aNew kd n H).2.2 i j = aP H.2.2 i j := fun i j hi => by
    simp only [aP, aNew, List.getD_eq_getElem?_getD]
    rw [List.getElem?_append_left (by omega)]
  refine List.ext_getElem? fun i => ?_
  rw [aWs, List.getElem?_mapIdx]
  rcases Nat.lt_trichotomy i H.1.length with hi | hi | hi
  · rw [List.getElem?_append_left (by rw [aWs, List.length_mapIdx]; exact hi), aWs, List.getElem?_mapIdx]
    have : (aNew kd n H).1[i]? = H.1[i]? := by simp only [aNew]; rw [List.getElem?_append_left hi]
    rw [this]
    cases H.1[i]? with
    | none => rfl
    | some q =>
      simp only [Option.map_some]
      have : aEnc ad cA (aNew kd n H).2.1 (aNew kd n H).2.2 i q = aEnc ad cA H.2.1 H.2.2 i q := by
        simp only [aEnc, hI i (by omega)]
        simp only [hPP i _ hi]
      rw [this]
  · subst hi
    rw [List.getElem?_append_right (by rw [aWs, List.length_mapIdx]; exact Nat.le_refl _)]
    simp [aNew, aWs]
  · rw [List.getElem?_append_right (by rw [aWs, List.length_mapIdx]; omega)]
    have h1 : (aNew kd n H).1[i]? = none := by simp only [aNew]; exact List.getElem?_eq_none (by simp; omega)
    have h2 : ([(ad H.1.length, aEnc ad cA (aNew kd n H).2.1 (aNew kd n H).2.2 H.1.length (kd, n))] : va_W)[i - (aWs ad cA H).length]? = none := List.getElem?_eq_none (by rw [aWs, List.length_mapIdx]; simp; omega)
    rw [h1, h2]; rfl
theorem aNew_zero {kd n : Nat} {H : aH} : (aNew kd n H).2.1 H.1.length = fun _ => 0 := by funext j; simp [aNew]
theorem aNew_null {kd n : Nat} {H : aH} (hP : H.2.2.length = H.1.length) (j : Nat) : aP (aNew kd n H).2.2 H.1.length j = none := by
  simp only [aP, aNew, List.getD_eq_getElem?_getD]
  rw [List.getElem?_append_right (by omega), hP]
  simp only [Nat.sub_self, List.getElem?_cons_zero, Option.getD_some]
  split
  · simp
  · rw [List.getElem?_replicate]; split <;> rfl
theorem aSz_new {kd n : Nat} {H : aH} : aSz (aNew kd n H) = aSz H + n := by simp [aSz, aNew]
theorem aNew_len {kd n : Nat} {H : aH} : (aNew kd n H).1.length = H.1.length + 1 := by simp [aNew]
/-- each kind of cell, and what the machine knows of its class -/
def aKd (U : State) (H : aH) (q : Nat × Nat) : Prop := (q.1 < 9 ∧ q.2 = aLen q.1) ∨ (20 ≤ q.1 ∧ q.1 ≤ 24 ∧ ArrOfT U (aCA U q.1) (aAT q.1) ∧ va_RA U (aCA U q.1) (aAT q.1))
/-- the statics and the texts -/
def aGl (base : Nat) (pre : Nat → Nat) (U : State) : Prop :=
  (∀ a, 1000 ≤ a → a < 1003 → va_Z (aSn a).1 (aSn a).2 "[I" (.ref (pre a)) (aA base) U U.heap ∧ ∀ q, aSt none a = some q → va_T .int (pre a) q.1 (fun j => .int (q.2 j)) (aA base) U U.heap)
  ∧ (∀ e ∈ aSr, vk_R (aO e.1) e.2.1 (aTs e.2.2) (pre e.2.2) U)
  ∧ va_Z "java/lang/String" "COMPACT_STRINGS" "Z" (.int 1) (aA base) U U.heap
  ∧ (∀ e ∈ aGn, va_Nw (.fieldLinkNest (aO e.1) e.2.1 (aSn e.2.2).1 (aSn e.2.2).2 "[I" RX7) U) ∧ (∀ e ∈ aIn, va_Nw (.methodLinkNest (aO e.1) e.2.1 (aY e.2.2) RX7) U) ∧ (∀ e ∈ [2, 5, 4], va_AO (aO e) U)
  ∧ vk_S 3 [0, 3, 3] aTx (fun i => pre (2000 + i)) (fun i => pre (2500 + i)) (aA base) U U.heap
theorem aGl.to {base : Nat} {pre : Nat → Nat} {s U : State} (h : aGl base pre s) (hW : s.WarmedH U.vm) (hk : ∀ a : Nat, a < s.heap.size → ¬ aA base a → U.heap[a]? = s.heap[a]?) : aGl base pre U := by
  obtain ⟨h1, h2, h3, h5, h6, h7, h4⟩ := h
  have hv := hW.alike
  exact ⟨fun a ha hb => ⟨((h1 a ha hb).1.moved hv).kept hk, fun q hq => (((h1 a ha hb).2 q hq).moved hv).kept hk⟩, fun e he => (h2 e he).warm hW, (h3.moved hv).kept hk, fun e he => (h5 e he).warmF hW, fun e he => (h6 e he).warmM hW, fun e he => (h7 e he).moved hv, (h4.moved hv).kept hk⟩
theorem aCA_moved {u U : State} (hvm : u.vm.Alike U.vm) : aCA U = aCA u := by
  funext kd; simp only [aCA, hvm.findClass]
theorem aKd.moved {u U : State} {H : aH} {q : Nat × Nat} (hvm : u.vm.Alike U.vm) (h : aKd u H q) : aKd U H q := by
  rcases h with h | ⟨h1, h2, h3, h4⟩
  · exact Or.inl h
  · refine Or.inr ⟨h1, h2, ?_, ?_⟩
    · rw [aCA_moved hvm]; exact arrOfT_moved hvm h3
    · rw [aCA_moved hvm]; exact h4.moved hvm
/-- what the heap is, of a state -/
def aWo (C : Nat → ClassId) (S : Nat → Nat → Nat) (base : Nat) (pre : Nat → Nat) (H : aH) (U : State) : Prop :=
  U.heap.size = base + H.1.length ∧ va_P (C, S) vwCl (aWs (aAd base pre) (aCA U) H) U.heap ∧ (∀ (i : Nat) (q : Nat × Nat), H.1[i]? = some q → aKd U H q) ∧ H.2.2.length = H.1.length
def aWd (C : Nat → ClassId) (S : Nat → Nat → Nat) (base : Nat) (pre : Nat → Nat) (H : aH) (U : State) : Prop :=
  aWo C S base pre H U ∧ va_K (C, S) vwCl [] U ∧ aGl base pre U
end
section
/-! the rules: what the interpreter does at an instruction, the machine does -/
abbrev aX : Type := Program × Launch × Env × Room × State × MethodId × Array Value × List Frame × Method × Code × (State → Prop) × (Nat → ClassId) × (Nat → Nat → Nat) × Nat × (Nat → Nat) × aSc × Nat × Nat
abbrev xp (X : aX) := X.1
abbrev xl (X : aX) := X.2.1
abbrev xe (X : aX) := X.2.2.1
abbrev xR (X : aX) := X.2.2.2.1
abbrev xs (X : aX) := X.2.2.2.2.1
abbrev xm (X : aX) := X.2.2.2.2.2.1
abbrev xa (X : aX) := X.2.2.2.2.2.2.1
abbrev xb (X : aX) := X.2.2.2.2.2.2.2.1
abbrev xM (X : aX) := X.2.2.2.2.2.2.2.2.1
abbrev xc (X : aX) := X.2.2.2.2.2.2.2.2.2.1
abbrev xQ (X : aX) := X.2.2.2.2.2.2.2.2.2.2.1
abbrev xC (X : aX) := X.2.2.2.2.2.2.2.2.2.2.2.1
abbrev xI (X : aX) := X.2.2.2.2.2.2.2.2.2.2.2.2.1
abbrev xB (X : aX) := X.2.2.2.2.2.2.2.2.2.2.2.2.2.1
abbrev xE (X : aX) := X.2.2.2.2.2.2.2.2.2.2.2.2.2.2.1
abbrev xS (X : aX) := X.2.2.2.2.2.2.2.2.2.2.2.2.2.2.2.1
abbrev xN (X : aX) := X.2.2.2.2.2.2.2.2.2.2.2.2.2.2.2.2.1
abbrev xz (X : aX) := X.2.2.2.2.2.2.2.2.2.2.2.2.2.2.2.2.2
abbrev xd (X : aX) : Nat → Nat := aAd (xB X) (xE X)
abbrev aW (X : aX) (Hp : Heap) (locs : List Loc) (cells slots : Nat) (g : JFrame) : Prop := W (xp X) (xl X) (xe X) (xR X) (xs X) (xm X) (xa X) (xb X) (xM X) (xc X) Hp locs cells slots (xQ X) g
def aRel (X : aX) (H : aH) (ls : aLs) (Hp : Heap) (locs : List Loc) (cells slots : Nat) (lsA : Array Slot) : Prop :=
  va_P (xC X, xI X) vwCl (aWs (xd X) (aCA (xs X)) H) Hp ∧ (∀ (i : Nat) (q : Nat × Nat), H.1[i]? = some q → aKd (xs X) H q) ∧ va_S (aA (xB X)) (xs X).heap Hp locs ∧ lv_has lsA (xN X) (aLv (xd X) ls) ∧ ls.length = xN X ∧ (xs X).heap.size + cells = xB X + H.1.length ∧ xz X + slots = aSz H ∧ H.2.2.length = H.1.length
/-- from here on the machine comes to the end, as the interpreter does -/
def aGd (X : aX) (H' : aH) (pc : Nat) (ls : aLs) (st : List Value) (H : aH) : Prop :=
  H.1 <+: H'.1 ∧ ∀ (Hp : Heap) (locs : List Loc) (cells slots : Nat) (lsA : Array Slot), aRel X H ls Hp locs cells slots lsA → aW X Hp locs cells slots (F0 (xm X) pc lsA (st.map (aVal (xd X))))
def aScr (X : aX) : Prop := ∀ q, xS X = some q → va_X (xE X 2999) q.1 q.2 (xs X) (xs X).heap ∧ xE X 2999 < (xs X).heap.size ∧ ¬ aA (xB X) (xE X 2999)
def aCx (X : aX) (cc : ByteArray) (o d : Nat) (ini : Bool) (H' : aH) : Prop :=
  (xp X).tables.exec = Jvm.exec ∧ (xc X).code = cc ∧ (xc X).maxLocals = xN X ∧ (xs X).vm.findClass (aO o) = some (xm X).cls ∧ (∀ w ∈ aTB, w.before (xa X) (xs X) = true) ∧ va_K (xC X, xI X) vwCl [] (xs X) ∧ aGl (xB X) (xE X) (xs X) ∧ xB X ≤ (xs X).heap.size ∧ (d + 1 ≤ (xR X).frames ∧ 32 * d + 32 ≤ (xR X).locals) ∧ (xB X + H'.1.length ≤ (xs X).heap.size + (xR X).cells ∧ aSz H' ≤ xz X + (xR X).slots) ∧ aScr X ∧ (ini = true → (xM X).name = "<init>") ∧ H'.1.length ≤ 1000
section RL
variable {X : aX} {cc : ByteArray} {o d : Nat} {ini : Bool} {H' : aH} {pc : Nat} {ls : aLs} {st : List Value} {H : aH}
theorem g_iload_n (C : aCx X cc o d ini H') {k : Fin 4} {v : Int32} (hd : decode cc pc = .ok (.iload_n k, 1)) (hv : ls[k.val]? = some (some (.int v))) (G : aGd X H' (pc + 1) ls (.int v :: st) H) : aGd X H' pc ls st H :=
  ⟨G.1, fun Hp locs cells slots lsA Rl => lv_iload_n C.1 C.2.1 hd rfl (aLv_get Rl.2.2.2.1 hv) (G.2 _ _ _ _ _ Rl)⟩
theorem g_iload (C : aCx X cc o d ini H') {k : Nat} {v : Int32} (hd : decode cc pc = .ok (.iload k, 2)) (hv : ls[k]? = some (some (.int v))) (G : aGd X H' (pc + 2) ls (.int v :: st) H) : aGd X H' pc ls st H :=
  ⟨G.1, fun Hp locs cells slots lsA Rl => lv_iload C.1 C.2.1 hd (aLv_get Rl.2.2.2.1 hv) (G.2 _ _ _ _ _ Rl)⟩
theorem g_lload_n (C : aCx X cc o d ini H') {k : Fin 4} {v : Int64} (hd : decode cc pc = .ok (.lload_n k, 1)) (hv : ls[k.val]? = some (some (.long v))) (G : aGd X H' (pc + 1) ls (.long v :: st) H) : aGd X H' pc ls st H :=
  ⟨G.1, fun Hp locs cells slots lsA Rl => lv_lload_n C.1 C.2.1 hd rfl (aLv_get Rl.2.2.2.1 hv) (G.2 _ _ _ _ _ Rl)⟩
theorem g_aload_n (C : aCx X cc o d ini H') {k : Fin 4} {v : Nat} (hd : decode cc pc = .ok (.aload_n k, 1)) (hv : ls[k.val]? = some (some (.ref v))) (G : aGd X H' (pc + 1) ls (.ref v :: st) H) : aGd X H' pc ls st H :=
  ⟨G.1, fun Hp locs cells slots lsA Rl => lv_aload_n C.1 C.2.1 hd rfl (aLv_get Rl.2.2.2.1 hv) (G.2 _ _ _ _ _ Rl)⟩
theorem g_aload (C : aCx X cc o d ini H') {k : Nat} {v : Nat} (hd : decode cc pc = .ok (.aload k, 2)) (hv : ls[k]? = some (some (.ref v))) (G : aGd X H' (pc + 2) ls (.ref v :: st) H) : aGd X H' pc ls st H :=
  ⟨G.1, fun Hp locs cells slots lsA Rl => lv_aload C.1 C.2.1 hd (aLv_get Rl.2.2.2.1 hv) (G.2 _ _ _ _ _ Rl)⟩
theorem g_aload_nN (C : aCx X cc o d ini H') {k : Fin 4} (hd : decode cc pc = .ok (.aload_n k, 1)) (hv : ls[k.val]? = some (some .null)) (G : aGd X H' (pc + 1) ls (.null :: st) H) : aGd X H' pc ls st H :=
  ⟨G.1, fun Hp locs cells slots lsA Rl => lv_aload_nN C.1 C.2.1 hd rfl (aLv_get Rl.2.2.2.1 hv) (G.2 _ _ _ _ _ Rl)⟩
theorem g_aloadN (C : aCx X cc o d ini H') {k : Nat} (hd : decode cc pc = .ok (.aload k, 2)) (hv : ls[k]? = some (some .null)) (G : aGd X H' (pc + 2) ls (.null :: st) H) : aGd X H' pc ls st H :=
  ⟨G.1, fun Hp locs cells slots lsA Rl => lv_aloadN C.1 C.2.1 hd (aLv_get Rl.2.2.2.1 hv) (G.2 _ _ _ _ _ Rl)⟩
theorem aRel.push {v : Value} {ls' : aLs} {i : Nat} {Hp : Heap} {locs : List Loc} {cells slots : Nat} {lsA lsA' : Array Slot} (Rl : aRel X H ls Hp locs cells slots lsA) (hp : aPush v ls i = some ls') (h : lv_has lsA' (xN X) ((i, aVal (xd X) v) :: (aLv (xd X) ls).filter (fun q => !(q.1 == i) && !(q.1 + 1 == i && q.2.category == 2)))) : aRel X H ls' Hp locs cells slots lsA' :=
  ⟨Rl.1, Rl.2.1, Rl.2.2.1, aLv_sub h (aLv_push hp), by rw [aPush_len hp]; exact Rl.2.2.2.2.1, Rl.2.2.2.2.2⟩
theorem g_istore_n (C : aCx X cc o d ini H') {k : Fin 4} {v : Int32} {ls' : aLs} (hd : decode cc pc = .ok (.istore_n k, 1)) (hp : aPush (.int v) ls k.val = some ls') (G : aGd X H' (pc + 1) ls' st H) : aGd X H' pc ls (.int v :: st) H :=
  ⟨G.1, fun Hp locs cells slots lsA Rl => lv_istore_n C.1 C.2.1 hd rfl Rl.2.2.2.1 (by rw [← Rl.2.2.2.2.1]; exact (aPush_spec hp).1) rfl fun lsA' h => G.2 _ _ _ _ _ (Rl.push hp h)⟩
theorem g_istore (C : aCx X cc o d ini H') {k : Nat} {v : Int32} {ls' : aLs} (hd : decode cc pc = .ok (.istore k, 2)) (hp : aPush (.int v) ls k = some ls') (G : aGd X H' (pc + 2) ls' st H) : aGd X H' pc ls (.int v :: st) H :=
  ⟨G.1, fun Hp locs cells slots lsA Rl => lv_istore C.1 C.2.1 hd Rl.2.2.2.1 (by rw [← Rl.2.2.2.2.1]; exact (aPush_spec hp).1) rfl fun lsA' h => G.2 _ _ _ _ _ (Rl.push hp h)⟩
theorem g_astore_n (C : aCx X cc o d ini H') {k : Fin 4} {v : Nat} {ls' : aLs} (hd : decode cc pc = .ok (.astore_n k, 1)) (hp : aPush (.ref v) ls k.val = some ls') (G : aGd X H' (pc + 1) ls' st H) : aGd X H' pc ls (.ref v :: st) H :=
  ⟨G.1, fun Hp locs cells slots lsA Rl => lv_astore_n C.1 C.2.1 hd rfl Rl.2.2.2.1 (by rw [← Rl.2.2.2.2.1]; exact (aPush_spec hp).1) rfl fun lsA' h => G.2 _ _ _ _ _ (Rl.push hp h)⟩
theorem g_astore (C : aCx X cc o d ini H') {k : Nat} {v : Nat} {ls' : aLs} (hd : decode cc pc = .ok (.astore k, 2)) (hp : aPush (.ref v) ls k = some ls') (G : aGd X H' (pc + 2) ls' st H) : aGd X H' pc ls (.ref v :: st) H :=
  ⟨G.1, fun Hp locs cells slots lsA Rl => lv_astore C.1 C.2.1 hd Rl.2.2.2.1 (by rw [← Rl.2.2.2.2.1]; exact (aPush_spec hp).1) rfl fun lsA' h => G.2 _ _ _ _ _ (Rl.push hp h)⟩
theorem g_astore_nN (C : aCx X cc o d ini H') {k : Fin 4} {ls' : aLs} (hd : decode cc pc = .ok (.astore_n k, 1)) (hp : aPush .null ls k.val = some ls') (G : aGd X H' (pc + 1) ls' st H) : aGd X H' pc ls (.null :: st) H :=
  ⟨G.1, fun Hp locs cells slots lsA Rl => lv_astore_nN C.1 C.2.1 hd rfl Rl.2.2.2.1 (by rw [← Rl.2.2.2.2.1]; exact (aPush_spec hp).1) rfl fun lsA' h => G.2 _ _ _ _ _ (Rl.push hp h)⟩
theorem g_astoreN (C : aCx X cc o d ini H') {k : Nat} {ls' : aLs} (hd : decode cc pc = .ok (.astore k, 2)) (hp : aPush .null ls k = some ls') (G : aGd X H' (pc + 2) ls' st H) : aGd X H' pc ls (.null :: st) H :=
  ⟨G.1, fun Hp locs cells slots lsA Rl => lv_astoreN C.1 C.2.1 hd Rl.2.2.2.1 (by rw [← Rl.2.2.2.2.1]; exact (aPush_spec hp).1) rfl fun lsA' h => G.2 _ _ _ _ _ (Rl.push hp h)⟩
theorem g_iinc (C : aCx X cc o d ini H') {k : Nat} {n : Int} {v c : Int32} {ls' : aLs} (hd : decode cc pc = .ok (.iinc k n, 3)) (hc : Int32.ofInt n = c) (hv : ls[k]? = some (some (.int v))) (hp : aPush (.int (v + c)) ls k = some ls') (G : aGd X H' (pc + 3) ls' st H) : aGd X H' pc ls st H :=
  ⟨G.1, fun Hp locs cells slots lsA Rl => by
    obtain ⟨j, hj⟩ := List.getElem?_of_mem (aLv_mem (ad := xd X) (q := (k, .int v)).mpr ⟨_, hv, rfl⟩)
    exact lv_iinc C.1 C.2.1 hd Rl.2.2.2.1 hj (by rw [hc]) (by rw [← Rl.2.2.2.2.1]; exact (aPush_spec hp).1) rfl fun lsA' h => G.2 _ _ _ _ _ (Rl.push hp h)⟩
theorem g_null (C : aCx X cc o d ini H') (hd : decode cc pc = .ok (.aconst_null, 1)) (G : aGd X H' (pc + 1) ls (.null :: st) H) : aGd X H' pc ls st H :=
  ⟨G.1, fun Hp locs cells slots lsA Rl => lv_null C.1 C.2.1 hd (G.2 _ _ _ _ _ Rl)⟩
theorem g_iconst (C : aCx X cc o d ini H') {n : Int} {c : Int32} (hd : decode cc pc = .ok (.iconst n, 1)) (hc : Int32.ofInt n = c) (G : aGd X H' (pc + 1) ls (.int c :: st) H) : aGd X H' pc ls st H :=
  ⟨G.1, fun Hp locs cells slots lsA Rl => lv_iconst C.1 C.2.1 hd hc (G.2 _ _ _ _ _ Rl)⟩
theorem g_bipush (C : aCx X cc o d ini H') {n : Int} {c : Int32} (hd : decode cc pc = .ok (.bipush n, 2)) (hc : (Int8.ofInt n).toInt32 = c) (G : aGd X H' (pc + 2) ls (.int c :: st) H) : aGd X H' pc ls st H :=
  ⟨G.1, fun Hp locs cells slots lsA Rl => lv_bipush C.1 C.2.1 hd hc (G.2 _ _ _ _ _ Rl)⟩
theorem g_sipush (C : aCx X cc o d ini H') {n : Int} {c : Int32} (hd : decode cc pc = .ok (.sipush n, 3)) (hc : (Int16.ofInt n).toInt32 = c) (G : aGd X H' (pc + 3) ls (.int c :: st) H) : aGd X H' pc ls st H :=
  ⟨G.1, fun Hp locs cells slots lsA Rl => lv_sipush C.1 C.2.1 hd hc (G.2 _ _ _ _ _ Rl)⟩
theorem g_ldc (C : aCx X cc o d ini H') {j : Nat} {c : Int32} (hd : decode cc pc = .ok (.ldc j, 2)) (hc : (o, j, c) ∈ aCt) (G : aGd X H' (pc + 2) ls (.int c :: st) H) : aGd X H' pc ls st H :=
  ⟨G.1, fun Hp locs cells slots lsA Rl => lv_ldc C.1 C.2.1 C.2.2.2.1 (C.2.2.2.2.1 _ (aTB_in (aCt_ok _ hc) rfl)) hd (G.2 _ _ _ _ _ Rl)⟩
theorem g_ldcw (C : aCx X cc o d ini H') {j : Nat} {c : Int32} (hd : decode cc pc = .ok (.ldc_w j, 3)) (hc : (o, j, c) ∈ aCt) (G : aGd X H' (pc + 3) ls (.int c :: st) H) : aGd X H' pc ls st H :=
  ⟨G.1, fun Hp locs cells slots lsA Rl => lv_ldcw C.1 C.2.1 C.2.2.2.1 (C.2.2.2.2.1 _ (aTB_in (aCt_ok _ hc) rfl)) hd (G.2 _ _ _ _ _ Rl)⟩
theorem g_ldc2 (C : aCx X cc o d ini H') {j x : Nat} (hd : decode cc pc = .ok (.ldc2_w j, 3)) (hc : (o, j, x) ∈ aCl) (G : aGd X H' (pc + 3) ls (.long (Int64.ofNat x) :: st) H) : aGd X H' pc ls st H :=
  ⟨G.1, fun Hp locs cells slots lsA Rl => lv_ldc2 C.1 C.2.1 C.2.2.2.1 (C.2.2.2.2.1 _ (aTB_in (aCl_ok _ hc) rfl)) hd (G.2 _ _ _ _ _ Rl)⟩
theorem aSr_big : ∀ e ∈ aSr, 1000 ≤ e.2.2 := by decide +kernel
theorem g_ldcS (C : aCx X cc o d ini H') {j x : Nat} (hd : decode cc pc = .ok (.ldc j, 2)) (hc : (o, j, x) ∈ aSr) (G : aGd X H' (pc + 2) ls (.ref x :: st) H) : aGd X H' pc ls st H :=
  ⟨G.1, fun Hp locs cells slots lsA Rl => by
    have h1 := C.2.2.2.2.2.2.1.2.1 _ hc
    have h2 := G.2 _ _ _ _ _ Rl
    have h3 := aSr_big _ hc
    have e : xd X x = xE X x := if_neg (by dsimp only at h3; omega)
    simp only [List.map_cons, aVal, e] at h2
    exact va_ldcS C.1 C.2.1 C.2.2.2.1 h1 hd h2⟩
theorem g_gets (C : aCx X cc o d ini H') {j x : Nat} (hd : decode cc pc = .ok (.getstatic j, 3)) (hc : (o, j, x) ∈ aGs ∨ (o, j, x) ∈ aGn) (hx : 1000 ≤ x ∧ x < 1003) (G : aGd X H' (pc + 3) ls (.ref x :: st) H) : aGd X H' pc ls st H :=
  ⟨G.1, fun Hp locs cells slots lsA Rl => by
    have h1 := (C.2.2.2.2.2.2.1.1 x hx.1 hx.2).1
    have h2 := G.2 _ _ _ _ _ Rl
    have e : xd X x = xE X x := if_neg (by omega)
    simp only [List.map_cons, aVal, e] at h2
    rcases hc with hc | hc
    · exact va_gets C.1 C.2.1 h1 Rl.2.2.1 C.2.2.2.1 (C.2.2.2.2.1 _ (aTB_in (aGs_ok _ hc) rfl)) (fun _ h => h) hd h2
    · exact va_getsN C.1 C.2.1 h1 Rl.2.2.1 C.2.2.2.1 ((C.2.2.2.2.2.2.1.2.2.2.1 _ hc).use rfl) (fun _ h => h) hd h2⟩
theorem g_getsI (C : aCx X cc o d ini H') {j : Nat} (hd : decode cc pc = .ok (.getstatic j, 3)) (hc : (o, j) ∈ aGi) (G : aGd X H' (pc + 3) ls (.int 1 :: st) H) : aGd X H' pc ls st H :=
  ⟨G.1, fun Hp locs cells slots lsA Rl => va_gets C.1 C.2.1 C.2.2.2.2.2.2.1.2.2.1 Rl.2.2.1 C.2.2.2.1 (C.2.2.2.2.1 _ (aTB_in (aGi_ok _ hc) rfl)) (fun _ h => h) hd (G.2 _ _ _ _ _ Rl)⟩
theorem aStr (C : aCx X cc o d ini H') : vk_S 3 [0, 3, 3] aTx (fun i => xE X (2000 + i)) (fun i => xE X (2500 + i)) (aA (xB X)) (xs X) (xs X).heap := C.2.2.2.2.2.2.1.2.2.2.2.2.2
theorem g_getS (C : aCx X cc o d ini H') {j y a : Nat} (hd : decode cc pc = .ok (.getfield j, 3)) (hc : (o, j, y) ∈ aFs) (ha : 2000 ≤ a ∧ a < 2003) (G : y = 0 ∧ aGd X H' (pc + 3) ls (.ref (a + 500) :: st) H ∨ ¬ y = 0 ∧ aGd X H' (pc + 3) ls (.int 0 :: st) H) : aGd X H' pc ls (.ref a :: st) H := by
  refine ⟨G.elim (fun g => g.2.1) (fun g => g.2.1), fun Hp locs cells slots lsA Rl => ?_⟩
  obtain ⟨h1, h2, h3, h4⟩ := (aStr C).1 (a - 2000) (by omega)
  have e1 : xd X a = xE X (2000 + (a - 2000)) := by rw [show 2000 + (a - 2000) = a by omega]; exact if_neg (by omega)
  have hl := C.2.2.2.2.1 _ (aTB_in (aFs_ok _ hc) rfl)
  show aW X Hp locs cells slots (F0 (xm X) pc lsA (.ref (xd X a) :: st.map (aVal (xd X))))
  rw [e1]
  rcases G with ⟨rfl, G⟩ | ⟨hy, G⟩
  · have K := G.2 _ _ _ _ _ Rl
    have e2 : xd X (a + 500) = xE X (2500 + (a - 2000)) := by rw [show 2500 + (a - 2000) = a + 500 by omega]; exact if_neg (by omega)
    simp only [List.map_cons, aVal, e2] at K
    exact vk_getf C.1 C.2.1 h3 Rl.2.2.1 C.2.2.2.1 hl (fun _ h => h) hd K
  · have K := G.2 _ _ _ _ _ Rl
    have e3 : (aSf y) = ("coder", "B") := if_neg hy
    dsimp only at hl
    rw [e3] at hl
    exact vk_getf C.1 C.2.1 h2 Rl.2.2.1 C.2.2.2.1 hl (fun _ h => h) hd K
theorem aTxLen {i : Nat} (h : i < 3) : ([0, 3, 3] : List Nat).getD i 0 = (aTx.getD i []).length := by
  rcases (show i = 0 ∨ i = 1 ∨ i = 2 by omega) with rfl | rfl | rfl <;> rfl
theorem g_tbald (C : aCx X cc o d ini H') {a : Nat} {i : Int32} (hd : decode cc pc = .ok (.baload, 1)) (ha : 2500 ≤ a ∧ a < 2503) (hi : ¬ (i < 0 ∨ (aTx.getD (a - 2500) []).length ≤ i.toNatClampNeg)) (G : aGd X H' (pc + 1) ls (.int ((aTx.getD (a - 2500) []).getD i.toNatClampNeg 0) :: st) H) : aGd X H' pc ls (.int i :: .ref a :: st) H := by
  refine ⟨G.1, fun Hp locs cells slots lsA Rl => ?_⟩
  obtain ⟨h1, h2, h3, h4⟩ := (aStr C).1 (a - 2500) (by omega)
  have e1 : xd X a = xE X (2500 + (a - 2500)) := by rw [show 2500 + (a - 2500) = a by omega]; exact if_neg (by omega)
  show aW X Hp locs cells slots (F0 (xm X) pc lsA (.int i :: .ref (xd X a) :: st.map (aVal (xd X))))
  rw [e1]
  rw [aTxLen (by omega)] at h4
  exact va_tb C.1 C.2.1 h4 Rl.2.2.1 hi rfl hd (G.2 _ _ _ _ _ Rl)
theorem g_tblen (C : aCx X cc o d ini H') {a : Nat} (hd : decode cc pc = .ok (.arraylength, 1)) (ha : 2500 ≤ a ∧ a < 2503) (G : aGd X H' (pc + 1) ls (.int (Int32.ofNat (aTx.getD (a - 2500) []).length) :: st) H) : aGd X H' pc ls (.ref a :: st) H := by
  refine ⟨G.1, fun Hp locs cells slots lsA Rl => ?_⟩
  obtain ⟨h1, h2, h3, h4⟩ := (aStr C).1 (a - 2500) (by omega)
  have e1 : xd X a = xE X (2500 + (a - 2500)) := by rw [show 2500 + (a - 2500) = a by omega]; exact if_neg (by omega)
  show aW X Hp locs cells slots (F0 (xm X) pc lsA (.ref (xd X a) :: st.map (aVal (xd X))))
  rw [e1]
  rw [aTxLen (by omega)] at h4
  exact va_tlen C.1 C.2.1 h4 Rl.2.2.1 rfl hd (G.2 _ _ _ _ _ Rl)
theorem g_bin (C : aCx X cc o d ini H') {x y : Int32} {i : Instr} {f : Int32 → Int32 → Int32} (hd : decode cc pc = .ok (i, 1)) (G : aGd X H' (pc + 1) ls (.int (f x y) :: st) H)
    (hf : (i = .iadd ∧ f = fun x y => x + y) ∨ (i = .isub ∧ f = fun x y => x - y) ∨ (i = .imul ∧ f = fun x y => x * y) ∨ (i = .iand ∧ f = fun x y => x &&& y) ∨ (i = .ior ∧ f = fun x y => x ||| y) ∨ (i = .ixor ∧ f = fun x y => x ^^^ y) ∨ (i = .ishl ∧ f = fun (x y : Int32) => x <<< (y &&& 31)) ∨ (i = .ishr ∧ f = fun (x y : Int32) => x >>> (y &&& 31)) ∨ (i = .iushr ∧ f = fun x y => (x.toUInt32 >>> (y.toUInt32 &&& Int32.toUInt32 31)).toInt32)) : aGd X H' pc ls (.int y :: .int x :: st) H := by
  refine ⟨G.1, fun Hp locs cells slots lsA Rl => ?_⟩
  have K := G.2 _ _ _ _ _ Rl
  rcases hf with ⟨rfl, rfl⟩ | ⟨rfl, rfl⟩ | ⟨rfl, rfl⟩ | ⟨rfl, rfl⟩ | ⟨rfl, rfl⟩ | ⟨rfl, rfl⟩ | ⟨rfl, rfl⟩ | ⟨rfl, rfl⟩ | ⟨rfl, rfl⟩
  · exact lv_iadd C.1 C.2.1 hd K
  · exact lv_isub C.1 C.2.1 hd K
  · exact lv_imul C.1 C.2.1 hd K
  · exact lv_iand C.1 C.2.1 hd K
  · exact lv_ior C.1 C.2.1 hd K
  · exact lv_ixor C.1 C.2.1 hd K
  · exact lv_ishl C.1 C.2.1 hd K
  · exact lv_ishr C.1 C.2.1 hd K
  · exact lv_iushr C.1 C.2.1 hd rfl K
theorem g_un (C : aCx X cc o d ini H') {x : Int32} {i : Instr} {f : Int32 → Int32} (hd : decode cc pc = .ok (i, 1)) (G : aGd X H' (pc + 1) ls (.int (f x) :: st) H)
    (hf : (i = .ineg ∧ f = fun x => -x) ∨ (i = .i2b ∧ f = fun x => x.toInt8.toInt32) ∨ (i = .i2s ∧ f = fun x => x.toInt16.toInt32) ∨ (i = .i2c ∧ f = fun x => (x.toUInt32 % 65536).toInt32)) : aGd X H' pc ls (.int x :: st) H := by
  refine ⟨G.1, fun Hp locs cells slots lsA Rl => ?_⟩
  have K := G.2 _ _ _ _ _ Rl
  rcases hf with ⟨rfl, rfl⟩ | ⟨rfl, rfl⟩ | ⟨rfl, rfl⟩ | ⟨rfl, rfl⟩
  · exact lv_ineg C.1 C.2.1 hd K
  · exact lv_i2b C.1 C.2.1 hd rfl K
  · exact lv_i2s C.1 C.2.1 hd rfl K
  · exact lv_i2c C.1 C.2.1 hd rfl K
theorem g_long (C : aCx X cc o d ini H') {i : Instr} {u v w : Value} (hd : decode cc pc = .ok (i, 1)) (G : aGd X H' (pc + 1) ls (w :: st) H)
    (hf : (∃ x y : Int64, i = .land ∧ u = .long y ∧ v = .long x ∧ w = .long (x &&& y)) ∨ (∃ x y : Int64, i = .lor ∧ u = .long y ∧ v = .long x ∧ w = .long (x ||| y)) ∨ (∃ (x : Int64) (y : Int32), i = .lshl ∧ u = .int y ∧ v = .long x ∧ w = .long (x <<< (y.toInt64 &&& 63))) ∨ (∃ (x : Int64) (y : Int32), i = .lshr ∧ u = .int y ∧ v = .long x ∧ w = .long (x >>> (y.toInt64 &&& 63))) ∨ (∃ (x : Int64) (y : Int32), i = .lushr ∧ u = .int y ∧ v = .long x ∧ w = .long (x.toUInt64 >>> (y.toInt64.toUInt64 &&& Int64.toUInt64 63)).toInt64)) : aGd X H' pc ls (u :: v :: st) H := by
  refine ⟨G.1, fun Hp locs cells slots lsA Rl => ?_⟩
  have K := G.2 _ _ _ _ _ Rl
  rcases hf with ⟨x, y, rfl, rfl, rfl, rfl⟩ | ⟨x, y, rfl, rfl, rfl, rfl⟩ | ⟨x, y, rfl, rfl, rfl, rfl⟩ | ⟨x, y, rfl, rfl, rfl, rfl⟩ | ⟨x, y, rfl, rfl, rfl, rfl⟩
  · exact lv_land C.1 C.2.1 hd K
  · exact lv_lor C.1 C.2.1 hd K
  · exact lv_lshl C.1 C.2.1 hd rfl K
  · exact lv_lshr C.1 C.2.1 hd rfl K
  · exact lv_lushr C.1 C.2.1 hd rfl K
theorem g_i2l (C : aCx X cc o d ini H') {x : Int32} (hd : decode cc pc = .ok (.i2l, 1)) (G : aGd X H' (pc + 1) ls (.long x.toInt64 :: st) H) : aGd X H' pc ls (.int x :: st) H :=
  ⟨G.1, fun Hp locs cells slots lsA Rl => lv_i2l C.1 C.2.1 hd rfl (G.2 _ _ _ _ _ Rl)⟩
theorem g_l2i (C : aCx X cc o d ini H') {x : Int64} (hd : decode cc pc = .ok (.l2i, 1)) (G : aGd X H' (pc + 1) ls (.int x.toInt32 :: st) H) : aGd X H' pc ls (.long x :: st) H :=
  ⟨G.1, fun Hp locs cells slots lsA Rl => lv_l2i C.1 C.2.1 hd rfl (G.2 _ _ _ _ _ Rl)⟩
theorem g_idiv (C : aCx X cc o d ini H') {x y : Int32} (hd : decode cc pc = .ok (.idiv, 1)) (hy : ¬ y = 0) (G : aGd X H' (pc + 1) ls (.int (x / y) :: st) H) : aGd X H' pc ls (.int y :: .int x :: st) H :=
  ⟨G.1, fun Hp locs cells slots lsA Rl => lv_idiv C.1 C.2.1 hd hy (G.2 _ _ _ _ _ Rl)⟩
theorem g_irem (C : aCx X cc o d ini H') {x y : Int32} (hd : decode cc pc = .ok (.irem, 1)) (hy : ¬ y = 0) (G : aGd X H' (pc + 1) ls (.int (x - x / y * y) :: st) H) : aGd X H' pc ls (.int y :: .int x :: st) H :=
  ⟨G.1, fun Hp locs cells slots lsA Rl => lv_irem C.1 C.2.1 hd hy (G.2 _ _ _ _ _ Rl)⟩
theorem g_goto (C : aCx X cc o d ini H') {f : Int} {t : Nat} (hd : decode cc pc = .ok (.goto f, 3)) (ht : (pc : Int) + f = (t : Int)) (G : aGd X H' t ls st H) : aGd X H' pc ls st H :=
  ⟨G.1, fun Hp locs cells slots lsA Rl => lv_goto C.1 C.2.1 hd ht (G.2 _ _ _ _ _ Rl)⟩
theorem g_ifnull (C : aCx X cc o d ini H') {f : Int} {x : Nat} (hd : decode cc pc = .ok (.ifnull f, 3)) (G : aGd X H' (pc + 3) ls st H) : aGd X H' pc ls (.ref x :: st) H :=
  ⟨G.1, fun Hp locs cells slots lsA Rl => lv_ifnull C.1 C.2.1 hd (G.2 _ _ _ _ _ Rl)⟩
theorem g_ifnullN (C : aCx X cc o d ini H') {f : Int} {t : Nat} (hd : decode cc pc = .ok (.ifnull f, 3)) (ht : (pc : Int) + f = (t : Int)) (G : aGd X H' t ls st H) : aGd X H' pc ls (.null :: st) H :=
  ⟨G.1, fun Hp locs cells slots lsA Rl => lv_ifnullN C.1 C.2.1 hd ht (G.2 _ _ _ _ _ Rl)⟩
theorem g_ifnn (C : aCx X cc o d ini H') {f : Int} {t x : Nat} (hd : decode cc pc = .ok (.ifnonnull f, 3)) (ht : (pc : Int) + f = (t : Int)) (G : aGd X H' t ls st H) : aGd X H' pc ls (.ref x :: st) H :=
  ⟨G.1, fun Hp locs cells slots lsA Rl => lv_ifnonnull C.1 C.2.1 hd ht (G.2 _ _ _ _ _ Rl)⟩
theorem g_ifnnN (C : aCx X cc o d ini H') {f : Int} (hd : decode cc pc = .ok (.ifnonnull f, 3)) (G : aGd X H' (pc + 3) ls st H) : aGd X H' pc ls (.null :: st) H :=
  ⟨G.1, fun Hp locs cells slots lsA Rl => lv_ifnonnullN C.1 C.2.1 hd (G.2 _ _ _ _ _ Rl)⟩
theorem g_dup (C : aCx X cc o d ini H') {v : Value} (hd : decode cc pc = .ok (.dup, 1)) (hv : v.category = 1) (G : aGd X H' (pc + 1) ls (v :: v :: st) H) : aGd X H' pc ls (v :: st) H :=
  ⟨G.1, fun Hp locs cells slots lsA Rl => lv_dup C.1 C.2.1 hd (by rw [aVal_cat]; exact hv) (G.2 _ _ _ _ _ Rl)⟩
theorem g_dup2 (C : aCx X cc o d ini H') {v w : Value} (hd : decode cc pc = .ok (.dup2, 1)) (hv : v.category = 1) (hw : w.category = 1) (G : aGd X H' (pc + 1) ls (v :: w :: v :: w :: st) H) : aGd X H' pc ls (v :: w :: st) H :=
  ⟨G.1, fun Hp locs cells slots lsA Rl => lv_dup2_11 C.1 C.2.1 hd (by rw [aVal_cat]; exact hv) (by rw [aVal_cat]; exact hw) (G.2 _ _ _ _ _ Rl)⟩
theorem g_pop (C : aCx X cc o d ini H') {v : Value} (hd : decode cc pc = .ok (.pop, 1)) (hv : v.category = 1) (G : aGd X H' (pc + 1) ls st H) : aGd X H' pc ls (v :: st) H :=
  ⟨G.1, fun Hp locs cells slots lsA Rl => lv_pop C.1 C.2.1 hd (by rw [aVal_cat]; exact hv) (G.2 _ _ _ _ _ Rl)⟩
end RL
end
section
/-! the rules that read and write the heap -/
section RL2
variable {X : aX} {cc : ByteArray} {o d : Nat} {ini : Bool} {H' : aH} {pc : Nat} {ls : aLs} {st : List Value} {H : aH}
theorem g_if (C : aCx X cc o d ini H') {cd : Jvm.ClassFile.Cond} {f : Int} {t : Nat} {x : Int32} (hd : decode cc pc = .ok (.ifCond cd f, 3)) (ht : (pc : Int) + f = (t : Int))
    (G : (match cd with | .eq => x = 0 | .ne => ¬ x = 0 | .lt => x < 0 | .ge => 0 ≤ x | .gt => 0 < x | .le => x ≤ 0) ∧ aGd X H' t ls st H ∨ ¬ (match cd with | .eq => x = 0 | .ne => ¬ x = 0 | .lt => x < 0 | .ge => 0 ≤ x | .gt => 0 < x | .le => x ≤ 0) ∧ aGd X H' (pc + 3) ls st H) : aGd X H' pc ls (.int x :: st) H := by
  refine ⟨G.elim (fun g => g.2.1) (fun g => g.2.1), fun Hp locs cells slots lsA Rl => ?_⟩
  rcases G with ⟨hc, G⟩ | ⟨hc, G⟩ <;> have K := G.2 _ _ _ _ _ Rl <;> cases cd <;> dsimp only at hc
  · exact lv_if_eq C.1 C.2.1 hd ht (fun _ => K) (fun z => absurd hc z)
  · exact lv_if_ne C.1 C.2.1 hd ht (fun _ => K) (fun z => absurd z hc)
  · exact lv_if_lt C.1 C.2.1 hd ht (fun _ => K) (fun z => absurd hc z)
  · exact lv_if_ge C.1 C.2.1 hd ht (fun _ => K) (fun z => absurd hc z)
  · exact lv_if_gt C.1 C.2.1 hd ht (fun _ => K) (fun z => absurd hc z)
  · exact lv_if_le C.1 C.2.1 hd ht (fun _ => K) (fun z => absurd hc z)
  · exact lv_if_eq C.1 C.2.1 hd ht (fun z => absurd z hc) (fun _ => K)
  · exact lv_if_ne C.1 C.2.1 hd ht (fun z => absurd z hc) (fun _ => K)
  · exact lv_if_lt C.1 C.2.1 hd ht (fun z => absurd z hc) (fun _ => K)
  · exact lv_if_ge C.1 C.2.1 hd ht (fun z => absurd z hc) (fun _ => K)
  · exact lv_if_gt C.1 C.2.1 hd ht (fun z => absurd z hc) (fun _ => K)
  · exact lv_if_le C.1 C.2.1 hd ht (fun z => absurd z hc) (fun _ => K)
theorem g_ic (C : aCx X cc o d ini H') {cd : Jvm.ClassFile.Cond} {f : Int} {t : Nat} {x y : Int32} (hd : decode cc pc = .ok (.if_icmp cd f, 3)) (ht : (pc : Int) + f = (t : Int))
    (G : (match cd with | .eq => x = y | .ne => ¬ x = y | .lt => x < y | .ge => y ≤ x | .gt => y < x | .le => x ≤ y) ∧ aGd X H' t ls st H ∨ ¬ (match cd with | .eq => x = y | .ne => ¬ x = y | .lt => x < y | .ge => y ≤ x | .gt => y < x | .le => x ≤ y) ∧ aGd X H' (pc + 3) ls st H) : aGd X H' pc ls (.int y :: .int x :: st) H := by
  refine ⟨G.elim (fun g => g.2.1) (fun g => g.2.1), fun Hp locs cells slots lsA Rl => ?_⟩
  rcases G with ⟨hc, G⟩ | ⟨hc, G⟩ <;> have K := G.2 _ _ _ _ _ Rl <;> cases cd <;> dsimp only at hc
  · exact lv_icmp_eq C.1 C.2.1 hd ht (fun _ => K) (fun z => absurd hc z)
  · exact lv_icmp_ne C.1 C.2.1 hd ht (fun _ => K) (fun z => absurd z hc)
  · exact lv_icmp_lt C.1 C.2.1 hd ht (fun _ => K) (fun z => absurd hc z)
  · exact lv_icmp_ge C.1 C.2.1 hd ht (fun _ => K) (fun z => absurd hc z)
  · exact lv_icmp_gt C.1 C.2.1 hd ht (fun _ => K) (fun z => absurd hc z)
  · exact lv_icmp_le C.1 C.2.1 hd ht (fun _ => K) (fun z => absurd hc z)
  · exact lv_icmp_eq C.1 C.2.1 hd ht (fun z => absurd z hc) (fun _ => K)
  · exact lv_icmp_ne C.1 C.2.1 hd ht (fun z => absurd z hc) (fun _ => K)
  · exact lv_icmp_lt C.1 C.2.1 hd ht (fun z => absurd z hc) (fun _ => K)
  · exact lv_icmp_ge C.1 C.2.1 hd ht (fun z => absurd z hc) (fun _ => K)
  · exact lv_icmp_gt C.1 C.2.1 hd ht (fun z => absurd z hc) (fun _ => K)
  · exact lv_icmp_le C.1 C.2.1 hd ht (fun z => absurd z hc) (fun _ => K)
theorem aSw_inv {r : Option Value × aH} {dd : Nat} {x : Int32} {k : Nat → aRs} : ∀ (sw : List (Int32 × Nat)), aSw sw dd x k = some r → (∃ (j t : Nat), sw[j]? = some (x, t) ∧ (∀ (i : Nat), i < j → ∀ e : Int32 × Nat, sw[i]? = some e → e.1 ≠ x) ∧ k t = some r) ∨ ((∀ e ∈ sw, e.1 ≠ x) ∧ k dd = some r)
  | [], h => Or.inr ⟨fun _ h => absurd h List.not_mem_nil, h⟩
  | (c, t) :: l, h => by
    rw [aSw] at h
    by_cases hc : x = c
    · rw [if_pos hc] at h
      subst hc
      exact Or.inl ⟨0, t, rfl, fun i hi => absurd hi (Nat.not_lt_zero i), h⟩
    · rw [if_neg hc] at h
      rcases aSw_inv l h with ⟨j, t', h1, h2, h3⟩ | ⟨h1, h2⟩
      · refine Or.inl ⟨j + 1, t', h1, fun i hi e he => ?_, h3⟩
        cases i with
        | zero => cases he; exact fun z => hc z.symm
        | succ i => exact h2 i (by omega) e he
      · exact Or.inr ⟨fun e he => (List.mem_cons.mp he).elim (fun z => by rw [z]; exact fun z => hc z.symm) (h1 e), h2⟩
theorem g_table (C : aCx X cc o d ini H') {dd lo hi : Int} {offs : Array Int} {len x : Nat} {sw : List (Int32 × Nat)} {v : Int32} (hd : decode cc pc = .ok (.tableswitch dd lo hi offs, len)) (hx : (pc : Int) + dd = (x : Int)) (hl : lo + sw.length = hi + 1)
    (hs : ∀ e ∈ sw.zipIdx, e.1.1.toInt = lo + e.2 ∧ (offs[e.2]?).map (fun f => (pc : Int) + f) = some (e.1.2 : Int))
    (G : (∃ (j t : Nat), sw[j]? = some (v, t) ∧ aGd X H' t ls st H) ∨ ((∀ e ∈ sw, e.1 ≠ v) ∧ aGd X H' x ls st H)) : aGd X H' pc ls (.int v :: st) H := by
  refine ⟨G.elim (fun ⟨_, _, g⟩ => g.2.1) (fun g => g.2.1), fun Hp locs cells slots lsA Rl => ?_⟩
  have hz : ∀ (j : Nat) (e : Int32 × Nat), sw[j]? = some e → e.1.toInt = lo + (j : Int) ∧ (offs[j]?).map (fun f => (pc : Int) + f) = some (e.2 : Int) := fun j e he => hs (e, j) (List.mem_zipIdx_iff_getElem?.mpr he)
  rcases G with ⟨j, t, hj, G⟩ | ⟨hno, G⟩
  · obtain ⟨h1, h2⟩ := hz j _ hj
    have hjl := (List.getElem?_eq_some_iff.mp hj).1
    dsimp only at h1 h2
    obtain ⟨f, hf, hft⟩ := Option.map_eq_some_iff.mp h2
    have e : (v.toInt - lo).toNat = j := by omega
    exact lv_tableIn C.1 C.2.1 hd (by omega) (by omega) (by rw [e]; exact hf) hft (G.2 _ _ _ _ _ Rl)
  · refine lv_tableOut C.1 C.2.1 hd ?_ hx (G.2 _ _ _ _ _ Rl)
    by_cases hc : v.toInt < lo ∨ hi < v.toInt
    · exact hc
    · exfalso
      have hjl : (v.toInt - lo).toNat < sw.length := by omega
      obtain ⟨h1, -⟩ := hz _ _ (List.getElem?_eq_getElem hjl)
      exact hno _ (List.getElem_mem hjl) (Int32.toInt_inj.mp (by rw [h1]; omega))
theorem g_lookup (C : aCx X cc o d ini H') {dd : Int} {ps : Array (Int × Int)} {len x : Nat} {sw : List (Int32 × Nat)} {v : Int32} (hd : decode cc pc = .ok (.lookupswitch dd ps, len)) (hx : (pc : Int) + dd = (x : Int)) (hp : (ps.toList.zip (ps.toList.drop 1)).all (fun (a, next) => a.1 < next.1) = true)
    (hs : ps.toList.map (fun e => (e.1, (pc : Int) + e.2)) = sw.map (fun e => (e.1.toInt, (e.2 : Int))))
    (G : (∃ (j t : Nat), sw[j]? = some (v, t) ∧ (∀ (i : Nat), i < j → ∀ e : Int32 × Nat, sw[i]? = some e → e.1 ≠ v) ∧ aGd X H' t ls st H) ∨ ((∀ e ∈ sw, e.1 ≠ v) ∧ aGd X H' x ls st H)) : aGd X H' pc ls (.int v :: st) H := by
  refine ⟨G.elim (fun ⟨_, _, g⟩ => g.2.2.1) (fun g => g.2.1), fun Hp locs cells slots lsA Rl => ?_⟩
  have key : ∀ (l : List (Int × Int)) (sw : List (Int32 × Nat)), l.map (fun e => (e.1, (pc : Int) + e.2)) = sw.map (fun e => (e.1.toInt, (e.2 : Int))) →
      ((∀ (j t : Nat), sw[j]? = some (v, t) → (∀ (i : Nat), i < j → ∀ e : Int32 × Nat, sw[i]? = some e → e.1 ≠ v) → (pc : Int) + Op.lookupswitch.offset l dd v.toInt = (t : Int)) ∧ ((∀ e ∈ sw, e.1 ≠ v) → Op.lookupswitch.offset l dd v.toInt = dd)) := by
    intro l
    induction l with
    | nil =>
      intro sw h
      cases sw with
      | nil => exact ⟨fun j t h => by simp at h, fun _ => rfl⟩
      | cons a b => cases h
    | cons a l ih =>
      intro sw h
      cases sw with
      | nil => cases h
      | cons b sw =>
        obtain ⟨h1, h2⟩ := List.cons.inj h
        obtain ⟨h3, h4⟩ := Prod.mk.inj h1
        obtain ⟨a1, a2⟩ := a
        dsimp only at h3 h4
        rw [Op.lookupswitch.offset_cons]
        refine ⟨fun j t hj hi => ?_, fun hno => ?_⟩
        · cases j with
          | zero =>
            cases hj
            rw [if_pos h3]; exact h4
          | succ j =>
            rw [if_neg (fun z => hi 0 (by omega) b rfl (Int32.toInt_inj.mp (by rw [← h3]; exact z)))]
            exact (ih sw h2).1 j t hj (fun i hlt e he => hi (i + 1) (by omega) e he)
        · rw [if_neg (fun z => hno b List.mem_cons_self (Int32.toInt_inj.mp (by rw [← h3]; exact z)))]
          exact (ih sw h2).2 (fun e he => hno e (List.mem_cons_of_mem _ he))
  rcases G with ⟨j, t, hj, hlt, G⟩ | ⟨hno, G⟩
  · exact lv_lookup C.1 C.2.1 hd hp rfl ((key _ _ hs).1 j t hj hlt) (G.2 _ _ _ _ _ Rl)
  · exact lv_lookup C.1 C.2.1 hd hp ((key _ _ hs).2 hno) hx (G.2 _ _ _ _ _ Rl)
/-! objects -/
theorem aCl_at {ci : Nat} (h : ci < 9) : vwCl[ci]? = some (aO ci, aT ci, aLen ci) := by
  rcases (show ci = 0 ∨ ci = 1 ∨ ci = 2 ∨ ci = 3 ∨ ci = 4 ∨ ci = 5 ∨ ci = 6 ∨ ci = 7 ∨ ci = 8 by omega) with rfl | rfl | rfl | rfl | rfl | rfl | rfl | rfl | rfl <;> rfl
theorem aLay_in {ci : Nat} (h : ci < 9) : ∀ w ∈ u_ws (aO ci) (aT ci) (aLen ci), w ∈ aTB := by
  have key : ∀ {R : String} {T : u_T} {N : Nat}, (∀ e ∈ List.range N, u_lay R T e ∈ lw_tbl) → ∀ w ∈ u_ws R T N, w ∈ aTB := fun h w hw => by
    obtain ⟨k, hk, rfl⟩ := List.mem_map.mp hw
    refine aTB_in (h k hk) ?_
    unfold u_lay
    split <;> rfl
  rcases (show ci = 0 ∨ ci = 1 ∨ ci = 2 ∨ ci = 3 ∨ ci = 4 ∨ ci = 5 ∨ ci = 6 ∨ ci = 7 ∨ ci = 8 by omega) with rfl | rfl | rfl | rfl | rfl | rfl | rfl | rfl | rfl
  · exact key aLay_0
  · exact key aLay_1
  · exact key aLay_2
  · exact key aLay_3
  · exact key aLay_4
  · exact key aLay_5
  · exact key aLay_6
  · exact key aLay_7
  · exact key aLay_8
theorem aTy_ok {ci : Nat} (h : ci < 9) : ∀ k, k < aLen ci → parseFieldDescriptor (aT ci k).2.2.1 = some (aTy ci k) := by
  rcases (show ci = 0 ∨ ci = 1 ∨ ci = 2 ∨ ci = 3 ∨ ci = 4 ∨ ci = 5 ∨ ci = 6 ∨ ci = 7 ∨ ci = 8 by omega) with rfl | rfl | rfl | rfl | rfl | rfl | rfl | rfl | rfl
  · exact tyX0_ok
  · exact tyX1_ok
  · exact tyX2_ok
  · exact tyX3_ok
  · exact tyX4_ok
  · exact tyX5_ok
  · exact tyX6_ok
  · exact tyX7_ok
  · exact tyX8_ok
theorem aNm_ok {ci : Nat} (h : ci < 9) : ∀ a, a < aLen ci → ∀ b, b < aLen ci → a ≠ b → (aT ci a).2.1 ≠ (aT ci b).2.1 := by
  rcases (show ci = 0 ∨ ci = 1 ∨ ci = 2 ∨ ci = 3 ∨ ci = 4 ∨ ci = 5 ∨ ci = 6 ∨ ci = 7 ∨ ci = 8 by omega) with rfl | rfl | rfl | rfl | rfl | rfl | rfl | rfl | rfl
  · exact nmX0
  · exact nmX1
  · exact nmX2
  · exact nmX3
  · exact nmX4
  · exact nmX5
  · exact nmX6
  · exact nmX7
  · exact nmX8
def aIsR : FieldType → Bool
  | .object _ => true
  | .array _ => true
  | _ => false
theorem aFk_ty : ∀ ci, ci < 9 → ∀ f, f < aLen ci → (aFk ci f = 0 ∧ aTy ci f = .int) ∨ (aFk ci f = 1 ∧ aTy ci f = .boolean) ∨ (aFk ci f = 2 ∧ aIsR (aTy ci f) = true) := by decide +kernel
theorem aIsR_fit {t : FieldType} (h : aIsR t = true) (a : Nat) : narrow t (.ref a) = .ref a ∧ fits t (.ref a) = true ∧ defaultValue t = .null := by
  cases t <;> first | exact ⟨rfl, rfl, rfl⟩ | cases h
theorem aEnc_obj {ad : Nat → Nat} {cA : Nat → ClassId} {I : Nat → Nat → Int32} {P : List (List (Option Nat))} {a ci n : Nat} (h : ci < 9) : aEnc ad cA I P a (ci, n) = .inr (ci, (List.range n).map (fun k => if aFk ci k = 2 then va_rf ((aP P a k).map ad) else .int (I a k))) := by
  unfold aEnc; rw [if_pos (show ci < 20 by omega)]
theorem aRng_get {α : Type} {n k : Nat} (f : Nat → α) (h : k < n) : ((List.range n).map f)[k]? = some (f k) := by simp [h]
theorem g_get (C : aCx X cc o d ini H') {j ci f a : Nat} {v : Value} (hd : decode cc pc = .ok (.getfield j, 3)) (hl : (o, j, ci, f) ∈ aFl) (hci : ci < 9) (hf : f < aLen ci) (ha : H.1[a]? = some (ci, aLen ci))
    (hv : (if aFk ci f = 2 then va_rf ((aP H.2.2 a f).map (xd X)) else .int (H.2.1 a f)) = aVal (xd X) v) (G : aGd X H' (pc + 3) ls (v :: st) H) : aGd X H' pc ls (.ref a :: st) H :=
  ⟨G.1, fun Hp locs cells slots lsA Rl => va_get C.1 C.2.1 C.2.2.2.2.1 (aLay_in hci) C.2.2.2.1 C.2.2.2.2.2.1 Rl.1 a ((aWs_get ha).trans (by rw [aEnc_obj hci])) (aCl_at hci) f hf (C.2.2.2.2.1 _ (aTB_in (aFl_ok _ hl) rfl)) (fun _ h => h) ((aRng_get _ hf).trans (by rw [hv])) hd (G.2 _ _ _ _ _ Rl)⟩
theorem aRel.set {a : Nat} {q : Nat × Nat} {I : Nat → Nat → Int32} {P : List (List (Option Nat))} {Hp Hp1 : Heap} {locs locs1 : List Loc} {cells slots : Nat} {lsA : Array Slot} {e : va_E} (Rl : aRel X H ls Hp locs cells slots lsA) (ha : H.1[a]? = some q) (he : e = aEnc (xd X) (aCA (xs X)) I P a q) (ho : ∀ i q, i ≠ a → aEnc (xd X) (aCA (xs X)) I P i q = aEnc (xd X) (aCA (xs X)) H.2.1 H.2.2 i q) (hP : P.length = H.2.2.length)
    (h1 : va_P (xC X, xI X) vwCl ((aWs (xd X) (aCA (xs X)) H).set a (xd X a, e)) Hp1) (h2 : va_S (aA (xB X)) (xs X).heap Hp1 locs1) : aRel X (H.1, I, P) ls Hp1 locs1 cells slots lsA := by
  subst he
  rw [aWs_set ha ho] at h1
  exact ⟨h1, Rl.2.1, h2, Rl.2.2.2.1, Rl.2.2.2.2.1, Rl.2.2.2.2.2.1, Rl.2.2.2.2.2.2.1, hP.trans Rl.2.2.2.2.2.2.2⟩
theorem g_put (C : aCx X cc o d ini H') {j ci f a : Nat} {v : Value} {I : Nat → Nat → Int32} {P : List (List (Option Nat))} (hd : decode cc pc = .ok (.putfield j, 3)) (hl : (o, j, ci, f) ∈ aFl) (hci : ci < 9) (hf : f < aLen ci) (hfin : (aT ci f).2.2.2 = false ∨ ini = true ∧ (aT ci f).1 = aO o) (ha : H.1[a]? = some (ci, aLen ci))
    (hn : narrow (aTy ci f) v = v) (hfit : fits (aTy ci f) v = true) (hg : (if aFk ci f = 2 then va_rf ((aP P a f).map (xd X)) else .int (I a f)) = v) (hk : ∀ k, k ≠ f → I a k = H.2.1 a k ∧ aP P a k = aP H.2.2 a k) (ho : ∀ i q, i ≠ a → aEnc (xd X) (aCA (xs X)) I P i q = aEnc (xd X) (aCA (xs X)) H.2.1 H.2.2 i q) (hP : P.length = H.2.2.length)
    {w : Value} (hw : aVal (xd X) w = v) (G : aGd X H' (pc + 3) ls st (H.1, I, P)) : aGd X H' pc ls (w :: .ref a :: st) H := by
  refine ⟨G.1, fun Hp locs cells slots lsA Rl => ?_⟩
  have hlen : H.1.length ≤ 1000 := Nat.le_trans G.1.length_le C.2.2.2.2.2.2.2.2.2.2.2.2
  have he := (aWs_get (ad := xd X) (cA := aCA (xs X)) ha).trans (by rw [aEnc_obj hci])
  have hset : ((List.range (aLen ci)).map (fun k => if aFk ci k = 2 then va_rf ((aP H.2.2 a k).map (xd X)) else .int (H.2.1 a k))).set f v = (List.range (aLen ci)).map (fun k => if aFk ci k = 2 then va_rf ((aP P a k).map (xd X)) else .int (I a k)) := aRange_set hg (fun k hk' => by rw [(hk k hk').1, (hk k hk').2])
  have kk : ∀ (Hp1 : Heap) (locs1 : List Loc), va_P (xC X, xI X) vwCl ((aWs (xd X) (aCA (xs X)) H).set a (xd X a, .inr (ci, ((List.range (aLen ci)).map (fun k => if aFk ci k = 2 then va_rf ((aP H.2.2 a k).map (xd X)) else .int (H.2.1 a k))).set f v))) Hp1 → va_S (aA (xB X)) (xs X).heap Hp1 locs1 → aW X Hp1 locs1 cells slots (F0 (xm X) (pc + 3) lsA (st.map (aVal (xd X)))) := fun Hp1 locs1 h1 h2 =>
    G.2 _ _ _ _ _ (Rl.set (I := I) (P := P) ha (by rw [hset, aEnc_obj hci]) ho hP h1 h2)
  show aW X Hp locs cells slots (F0 (xm X) pc lsA (aVal (xd X) w :: .ref (xd X a) :: st.map (aVal (xd X))))
  rw [hw]
  by_cases hF : (aT ci f).2.2.2 = false
  · exact va_put C.1 C.2.1 C.2.2.2.2.1 (aLay_in hci) (aTy ci) (aTy_ok hci) (aNm_ok hci) C.2.2.2.1 C.2.2.2.2.2.1 Rl.1 (aWs_D hlen) Rl.2.2.1 a he (aCl_at hci) f hf (C.2.2.2.2.1 _ (aTB_in (aFl_ok _ hl) rfl)) (fun _ h => h) hF (aTy_ok hci f hf) hn hfit (by simpa using hf) hd (fun H1 l1 h1 _ h2 => kk H1 l1 h1 h2)
  · obtain ⟨hi1, hi2⟩ := hfin.resolve_left hF
    exact va_putF C.1 C.2.1 C.2.2.2.2.1 (aLay_in hci) (aTy ci) (aTy_ok hci) (aNm_ok hci) C.2.2.2.1 C.2.2.2.2.2.1 Rl.1 (aWs_D hlen) Rl.2.2.1 a he (aCl_at hci) f hf (C.2.2.2.2.1 _ (aTB_in (aFl_ok _ hl) rfl)) (fun _ h => h) (by simpa using hF) (C.2.2.2.2.2.2.2.2.2.2.2.1 hi1) hi2 (aTy_ok hci f hf) hn hfit (by simpa using hf) hd (fun H1 l1 h1 _ h2 => kk H1 l1 h1 h2)
theorem g_putI (C : aCx X cc o d ini H') {j ci f a : Nat} {x : Int32} (hd : decode cc pc = .ok (.putfield j, 3)) (hl : (o, j, ci, f) ∈ aFl) (hci : ci < 9) (hf : f < aLen ci) (hfin : (aT ci f).2.2.2 = false ∨ ini = true ∧ (aT ci f).1 = aO o) (ha : H.1[a]? = some (ci, aLen ci))
    (hx : aFk ci f = 0 ∨ aFk ci f = 1 ∧ (x = 0 ∨ x = 1)) (G : aGd X H' (pc + 3) ls st (H.1, aUpd H.2.1 a f x, H.2.2)) : aGd X H' pc ls (.int x :: .ref a :: st) H := by
  have hne : aFk ci f ≠ 2 := by omega
  have hb : narrow (aTy ci f) (.int x) = .int x ∧ fits (aTy ci f) (.int x) = true := by
    rcases aFk_ty ci hci f hf with ⟨h1, h2⟩ | ⟨h1, h2⟩ | ⟨h1, h2⟩
    · rw [h2]; exact ⟨rfl, rfl⟩
    · rcases hx with hx | ⟨-, hx | hx⟩
      · omega
      · rw [h2, hx]; exact ⟨rfl, rfl⟩
      · rw [h2, hx]; exact ⟨rfl, rfl⟩
    · omega
  refine g_put C hd hl hci hf hfin ha hb.1 hb.2 ?_ (fun k hk => ⟨by simp [aUpd, upd, hk], rfl⟩) (fun i q hi => aEnc_int hi) rfl rfl G
  rw [if_neg hne]; simp [aUpd, upd]
theorem g_putR (C : aCx X cc o d ini H') {j ci f a x : Nat} (hd : decode cc pc = .ok (.putfield j, 3)) (hl : (o, j, ci, f) ∈ aFl) (hci : ci < 9) (hf : f < aLen ci) (hfin : (aT ci f).2.2.2 = false ∨ ini = true ∧ (aT ci f).1 = aO o) (ha : H.1[a]? = some (ci, aLen ci))
    (hx : aFk ci f = 2) (hr : f < (H.2.2.getD a []).length) (G : aGd X H' (pc + 3) ls st (H.1, H.2.1, aSetP H.2.2 a f (some x))) : aGd X H' pc ls (.ref x :: .ref a :: st) H := by
  have hb : aIsR (aTy ci f) = true := by
    rcases aFk_ty ci hci f hf with ⟨h1, h2⟩ | ⟨h1, h2⟩ | ⟨h1, h2⟩
    · omega
    · omega
    · exact h2
  refine g_put C hd hl hci hf hfin ha (aIsR_fit hb _).1 (aIsR_fit hb _).2.1 ?_ (fun k hk => ⟨rfl, by rw [aSetP_get hr, if_neg (fun e => hk e.2)]⟩) (fun i q hi => aEnc_ref hr hi) aSetP_len rfl G
  rw [if_pos hx, aSetP_get hr, if_pos ⟨rfl, rfl⟩]; rfl
end RL2
end
section
/-! arrays, new cells, the library's own, the size of the heap -/
section RL3
variable {X : aX} {cc : ByteArray} {o d : Nat} {ini : Bool} {H' : aH} {pc : Nat} {ls : aLs} {st : List Value} {H : aH}
theorem aEnc_ints {ad : Nat → Nat} {cA : Nat → ClassId} {I : Nat → Nat → Int32} {P : List (List (Option Nat))} {a kd n : Nat} (h : kd = 20 ∨ kd = 21) : aEnc ad cA I P a (kd, n) = .inl (cA kd, n, .inl (I a)) := by
  unfold aEnc; rw [if_neg (show ¬ kd < 20 by omega), if_pos (show kd < 22 by omega)]
theorem aEnc_refs {ad : Nat → Nat} {cA : Nat → ClassId} {I : Nat → Nat → Int32} {P : List (List (Option Nat))} {a kd n : Nat} (h : 22 ≤ kd) : aEnc ad cA I P a (kd, n) = .inl (cA kd, n, .inr (.inr (.inr (.inr (fun j => (aP P a j).map ad))))) := by
  unfold aEnc; rw [if_neg (show ¬ kd < 20 by omega), if_neg (show ¬ kd < 22 by omega)]
theorem aKd.arr {s : State} {q : Nat × Nat} (h : aKd s H q) (hq : 20 ≤ q.1) : va_K (xC X, xI X) vwCl [] (xs X) → s = xs X → va_K (xC X, xI X) vwCl [(aCA s q.1, aAT q.1)] (xs X) := by
  rintro hK rfl
  refine ⟨hK.1, fun k x hx => ?_⟩
  have hz : k < 1 := (List.getElem?_eq_some_iff.mp hx).1
  obtain rfl : k = 0 := by omega
  cases hx
  rcases h with h | h
  · omega
  · exact h.2.2
theorem g_iald (C : aCx X cc o d ini H') {a n : Nat} {i : Int32} (hd : decode cc pc = .ok (.iaload, 1)) (ha : H.1[a]? = some (20, n)) (hi : ¬ (i < 0 ∨ n ≤ i.toNatClampNeg)) (G : aGd X H' (pc + 1) ls (.int (H.2.1 a i.toNatClampNeg) :: st) H) : aGd X H' pc ls (.int i :: .ref a :: st) H :=
  ⟨G.1, fun Hp locs cells slots lsA Rl => va_iald C.1 C.2.1 ((Rl.2.1 _ _ ha).arr (Nat.le_refl 20) C.2.2.2.2.2.1 rfl) Rl.1 a 0 ((aWs_get ha).trans (by rw [aEnc_ints (Or.inl rfl)])) rfl hi hd (G.2 _ _ _ _ _ Rl)⟩
theorem g_bald (C : aCx X cc o d ini H') {a n : Nat} {i : Int32} (hd : decode cc pc = .ok (.baload, 1)) (ha : H.1[a]? = some (21, n)) (hi : ¬ (i < 0 ∨ n ≤ i.toNatClampNeg)) (G : aGd X H' (pc + 1) ls (.int (H.2.1 a i.toNatClampNeg) :: st) H) : aGd X H' pc ls (.int i :: .ref a :: st) H :=
  ⟨G.1, fun Hp locs cells slots lsA Rl => va_bald C.1 C.2.1 ((Rl.2.1 _ _ ha).arr (Nat.le_of_ble_eq_true rfl) C.2.2.2.2.2.1 rfl) Rl.1 a 0 ((aWs_get ha).trans (by rw [aEnc_ints (Or.inr rfl)])) rfl hi hd (G.2 _ _ _ _ _ Rl)⟩
theorem g_aald (C : aCx X cc o d ini H') {a n kd : Nat} {i : Int32} {v : Value} (hd : decode cc pc = .ok (.aaload, 1)) (ha : H.1[a]? = some (kd, n)) (hk : 22 ≤ kd ∧ kd ≤ 24) (hi : ¬ (i < 0 ∨ n ≤ i.toNatClampNeg)) (hv : va_rf ((aP H.2.2 a i.toNatClampNeg).map (xd X)) = aVal (xd X) v) (G : aGd X H' (pc + 1) ls (v :: st) H) : aGd X H' pc ls (.int i :: .ref a :: st) H :=
  ⟨G.1, fun Hp locs cells slots lsA Rl => by
    have hK := (Rl.2.1 _ _ ha).arr (show 20 ≤ kd by omega) C.2.2.2.2.2.1 rfl
    have hT : aAT kd = .object (aO (aKc kd)) := by unfold aAT; rw [if_neg (by omega), if_neg (by omega)]
    have K := G.2 _ _ _ _ _ Rl
    simp only [List.map_cons, ← hv] at K
    exact va_aldq C.1 C.2.1 hK Rl.1 a 0 ((aWs_get ha).trans (by rw [aEnc_refs hk.1])) (by rw [← hT]; rfl) hi hd K⟩
theorem aSt_none {a : Nat} {q : Nat × (Nat → Int32)} (h : aSt none a = some q) : 1000 ≤ a ∧ a < 1003 := by
  unfold aSt at h
  split at h
  · omega
  · split at h
    · omega
    · split at h
      · omega
      · split at h <;> cases h
theorem aSt_scr {scr : aSc} {a : Nat} {q : Nat × (Nat → Int32)} (h : aSt scr a = some q) : aSt none a = some q ∨ a = 2999 ∧ scr = some q := by
  unfold aSt at h ⊢
  by_cases h1 : a = 1000
  · rw [if_pos h1] at h; exact Or.inl (by rw [if_pos h1]; exact h)
  · rw [if_neg h1] at h ⊢
    by_cases h2 : a = 1001
    · rw [if_pos h2] at h; exact Or.inl (by rw [if_pos h2]; exact h)
    · rw [if_neg h2] at h ⊢
      by_cases h3 : a = 1002
      · rw [if_pos h3] at h; exact Or.inl (by rw [if_pos h3]; exact h)
      · rw [if_neg h3] at h ⊢
        by_cases h4 : a = 2999
        · rw [if_pos h4] at h; exact Or.inr ⟨h4, h⟩
        · rw [if_neg h4] at h; cases h
theorem g_stald (C : aCx X cc o d ini H') {a : Nat} {q : Nat × (Nat → Int32)} {i : Int32} (hd : decode cc pc = .ok (.iaload, 1)) (ha : aSt (xS X) a = some q) (hi : ¬ (i < 0 ∨ q.1 ≤ i.toNatClampNeg)) (G : aGd X H' (pc + 1) ls (.int (q.2 i.toNatClampNeg) :: st) H) : aGd X H' pc ls (.int i :: .ref a :: st) H :=
  ⟨G.1, fun Hp locs cells slots lsA Rl => by
    have K := G.2 _ _ _ _ _ Rl
    rcases aSt_scr ha with h | ⟨rfl, h⟩
    · have hb := aSt_none h
      have hT := (C.2.2.2.2.2.2.1.1 a hb.1 hb.2).2 q h
      have e : xd X a = xE X a := if_neg (by omega)
      show aW X Hp locs cells slots (F0 (xm X) pc lsA (.int i :: .ref (xd X a) :: st.map (aVal (xd X))))
      rw [e]
      exact va_ti C.1 C.2.1 hT Rl.2.2.1 hi rfl hd K
    · obtain ⟨h1, h2, h3⟩ := C.2.2.2.2.2.2.2.2.2.2.1 q h
      have e : xd X 2999 = xE X 2999 := if_neg (by omega)
      show aW X Hp locs cells slots (F0 (xm X) pc lsA (.int i :: .ref (xd X 2999) :: st.map (aVal (xd X))))
      rw [e]
      exact va_sld C.1 C.2.1 h1 h2 h3 Rl.2.2.1 hi hd K⟩
theorem g_alen (C : aCx X cc o d ini H') {a : Nat} {q : Nat × Nat} (hd : decode cc pc = .ok (.arraylength, 1)) (ha : H.1[a]? = some q) (hk : 20 ≤ q.1 ∧ q.1 ≤ 24) (G : aGd X H' (pc + 1) ls (.int (Int32.ofNat q.2) :: st) H) : aGd X H' pc ls (.ref a :: st) H :=
  ⟨G.1, fun Hp locs cells slots lsA Rl => by
    have hK := (Rl.2.1 _ _ ha).arr hk.1 C.2.2.2.2.2.1 rfl
    obtain ⟨kd, n⟩ := q
    have he : ∃ x : vp_A, x.1 = n ∧ aEnc (xd X) (aCA (xs X)) H.2.1 H.2.2 a (kd, n) = .inl (aCA (xs X) kd, x) := by
      by_cases h : kd < 22
      · exact ⟨(n, .inl (H.2.1 a)), rfl, aEnc_ints (by dsimp only at hk; omega)⟩
      · exact ⟨(n, _), rfl, aEnc_refs (by omega)⟩
    obtain ⟨x, hx, he⟩ := he
    exact va_alen C.1 C.2.1 hK Rl.1 a 0 ((aWs_get ha).trans (by rw [he])) rfl (by rw [hx]) hd (G.2 _ _ _ _ _ Rl)⟩
theorem g_slen (C : aCx X cc o d ini H') {a : Nat} {q : Nat × (Nat → Int32)} (hd : decode cc pc = .ok (.arraylength, 1)) (ha : aSt (xS X) a = some q) (G : aGd X H' (pc + 1) ls (.int (Int32.ofNat q.1) :: st) H) : aGd X H' pc ls (.ref a :: st) H :=
  ⟨G.1, fun Hp locs cells slots lsA Rl => by
    have K := G.2 _ _ _ _ _ Rl
    rcases aSt_scr ha with h | ⟨rfl, h⟩
    · have hb := aSt_none h
      have hT := (C.2.2.2.2.2.2.1.1 a hb.1 hb.2).2 q h
      have e : xd X a = xE X a := if_neg (by omega)
      show aW X Hp locs cells slots (F0 (xm X) pc lsA (.ref (xd X a) :: st.map (aVal (xd X))))
      rw [e]
      exact va_tlen C.1 C.2.1 hT Rl.2.2.1 rfl hd K
    · obtain ⟨h1, h2, h3⟩ := C.2.2.2.2.2.2.2.2.2.2.1 q h
      have e : xd X 2999 = xE X 2999 := if_neg (by omega)
      show aW X Hp locs cells slots (F0 (xm X) pc lsA (.ref (xd X 2999) :: st.map (aVal (xd X))))
      rw [e]
      exact va_slen C.1 C.2.1 h1 h2 h3 Rl.2.2.1 hd K⟩
theorem aUpd_row {I : Nat → Nat → Int32} {a k : Nat} {x : Int32} : aUpd I a k x a = upd (I a) k x := by funext j; simp [aUpd]
theorem g_iast (C : aCx X cc o d ini H') {a n : Nat} {i x : Int32} (hd : decode cc pc = .ok (.iastore, 1)) (ha : H.1[a]? = some (20, n)) (hi : ¬ (i < 0 ∨ n ≤ i.toNatClampNeg)) (G : aGd X H' (pc + 1) ls st (H.1, aUpd H.2.1 a i.toNatClampNeg x, H.2.2)) : aGd X H' pc ls (.int x :: .int i :: .ref a :: st) H :=
  ⟨G.1, fun Hp locs cells slots lsA Rl => va_iast C.1 C.2.1 ((Rl.2.1 _ _ ha).arr (Nat.le_refl 20) C.2.2.2.2.2.1 rfl) Rl.1 (aWs_D (Nat.le_trans G.1.length_le C.2.2.2.2.2.2.2.2.2.2.2.2)) Rl.2.2.1 a 0 ((aWs_get ha).trans (by rw [aEnc_ints (Or.inl rfl)])) rfl hi hd
    fun Hp1 l1 h1 _ h2 => G.2 _ _ _ _ _ (Rl.set (I := aUpd H.2.1 a i.toNatClampNeg x) (P := H.2.2) ha (by rw [aEnc_ints (Or.inl rfl), aUpd_row]) (fun i q hi => aEnc_int hi) rfl h1 h2)⟩
theorem g_bast (C : aCx X cc o d ini H') {a n : Nat} {i x : Int32} (hd : decode cc pc = .ok (.bastore, 1)) (ha : H.1[a]? = some (21, n)) (hi : ¬ (i < 0 ∨ n ≤ i.toNatClampNeg)) (G : aGd X H' (pc + 1) ls st (H.1, aUpd H.2.1 a i.toNatClampNeg x.toInt8.toInt32, H.2.2)) : aGd X H' pc ls (.int x :: .int i :: .ref a :: st) H :=
  ⟨G.1, fun Hp locs cells slots lsA Rl => va_bast C.1 C.2.1 ((Rl.2.1 _ _ ha).arr (Nat.le_of_ble_eq_true rfl) C.2.2.2.2.2.1 rfl) Rl.1 (aWs_D (Nat.le_trans G.1.length_le C.2.2.2.2.2.2.2.2.2.2.2.2)) Rl.2.2.1 a 0 ((aWs_get ha).trans (by rw [aEnc_ints (Or.inr rfl)])) rfl hi hd
    fun Hp1 l1 h1 _ h2 => G.2 _ _ _ _ _ (Rl.set (I := aUpd H.2.1 a i.toNatClampNeg x.toInt8.toInt32) (P := H.2.2) ha (by rw [aEnc_ints (Or.inr rfl), aUpd_row, vp_nar_byte]) (fun i q hi => aEnc_int hi) rfl h1 h2)⟩
theorem aAT_obj {kd : Nat} (h : 22 ≤ kd) : aAT kd = .object (aO (aKc kd)) := by unfold aAT; rw [if_neg (by omega), if_neg (by omega)]
theorem aKc_lt (kd : Nat) : aKc kd < 9 := by unfold aKc; split <;> (try split) <;> omega
theorem g_aast (C : aCx X cc o d ini H') {a n kd x : Nat} {i : Int32} (hd : decode cc pc = .ok (.aastore, 1)) (ha : H.1[a]? = some (kd, n)) (hk : 22 ≤ kd ∧ kd ≤ 24) (hi : ¬ (i < 0 ∨ n ≤ i.toNatClampNeg)) (hx : H.1[x]? = some (aKc kd, aLen (aKc kd))) (hr : i.toNatClampNeg < (H.2.2.getD a []).length)
    (G : aGd X H' (pc + 1) ls st (H.1, H.2.1, aSetP H.2.2 a i.toNatClampNeg (some x))) : aGd X H' pc ls (.ref x :: .int i :: .ref a :: st) H :=
  ⟨G.1, fun Hp locs cells slots lsA Rl => by
    have hK := (Rl.2.1 _ _ ha).arr (show 20 ≤ kd by omega) C.2.2.2.2.2.1 rfl
    refine va_astq C.1 C.2.1 hK Rl.1 (aWs_D (Nat.le_trans G.1.length_le C.2.2.2.2.2.2.2.2.2.2.2.2)) Rl.2.2.1 a 0 x (aKc kd) ((aWs_get ha).trans (by rw [aEnc_refs hk.1])) (r := (aO (aKc kd), aT (aKc kd), aLen (aKc kd))) (by rw [← aAT_obj hk.1]; rfl) ((aWs_get hx).trans (by rw [aEnc_obj (aKc_lt kd)])) (aCl_at (aKc_lt kd)) hi hd
      fun Hp1 l1 h1 _ h2 => G.2 _ _ _ _ _ (Rl.set (I := H.2.1) (P := aSetP H.2.2 a i.toNatClampNeg (some x)) ha ?_ (fun i q hi => aEnc_ref hr hi) aSetP_len h1 h2)
    rw [aEnc_refs hk.1]
    congr 7
    funext k
    rw [aSetP_get hr]
    unfold va_up
    by_cases hk' : k = i.toNatClampNeg
    · rw [if_pos hk', if_pos ⟨rfl, hk'⟩]; rfl
    · rw [if_neg hk', if_neg (fun e => hk' e.2)]⟩
/-- the heap's size is known at any time -/
theorem aW.size {Hp : Heap} {locs : List Loc} {cells slots : Nat} {g : JFrame} (h : Hp.size ≤ (xs X).heap.size + cells → aW X Hp locs cells slots g) : aW X Hp locs cells slots g := fun T hT St => h (hT ▸ St.heapSize) T hT St
theorem aRel.size {Hp : Heap} {locs : List Loc} {cells slots : Nat} {lsA : Array Slot} (Rl : aRel X H ls Hp locs cells slots lsA) (hb : xB X ≤ (xs X).heap.size) (hl : H.1.length ≤ 1000) (h : Hp.size ≤ (xs X).heap.size + cells) : Hp.size = xB X + H.1.length := by
  have h1 := Rl.2.2.1.1
  have h2 := Rl.2.2.2.2.2.1
  cases hc : H.1.length with
  | zero => omega
  | succ n =>
    have hq : H.1[n]? = some H.1[n] := List.getElem?_eq_getElem (by omega)
    have h3 := (Rl.1 n _ (aWs_get hq)).lt
    simp only [xd, aAd, if_pos (show n < 1000 by omega)] at h3
    omega
/-- a new cell lies right behind the others -/
theorem aNew_at {Hp1 : Heap} {w : va_W} {q : Nat} {e : va_E} (hD : va_D (aA (xB X)) (w ++ [(q, e)])) (hP : va_P (xC X, xI X) vwCl (w ++ [(q, e)]) Hp1) (hw : w = aWs (xd X) (aCA (xs X)) H) (hl : H.1.length ≤ 999) (hs : Hp1.size ≤ xB X + H.1.length + 1) : q = xB X + H.1.length := by
  have hlen : w.length = H.1.length := by rw [hw, aWs, List.length_mapIdx]
  have h0 : (w ++ [(q, e)])[w.length]? = some (q, e) := by rw [List.getElem?_append_right (Nat.le_refl _)]; simp
  have h1 := hD.2 _ _ h0
  have h2 := (hP _ _ h0).lt
  dsimp only [aA] at h1 h2
  by_cases hq : q = xB X + H.1.length
  · exact hq
  · exfalso
    have hj : q - xB X < H.1.length := by omega
    have hx : w[q - xB X]? = some (xd X (q - xB X), aEnc (xd X) (aCA (xs X)) H.2.1 H.2.2 (q - xB X) H.1[q - xB X]) := by rw [hw]; exact aWs_get (List.getElem?_eq_getElem hj)
    have hx' : (w ++ [(q, e)])[q - xB X]? = some (xd X (q - xB X), aEnc (xd X) (aCA (xs X)) H.2.1 H.2.2 (q - xB X) H.1[q - xB X]) := by rw [List.getElem?_append_left (by omega)]; exact hx
    have := hD.1 _ _ _ _ hx' h0 (by simp only [xd, aAd, if_pos (show q - xB X < 1000 by omega)]; omega)
    omega
theorem aRel.new {kd n : Nat} {Hp Hp1 : Heap} {locs : List Loc} {cells slots : Nat} {lsA : Array Slot} {q : Nat} {e : va_E} (Rl : aRel X H ls Hp locs cells slots lsA) (he : e = aEnc (xd X) (aCA (xs X)) (aNew kd n H).2.1 (aNew kd n H).2.2 H.1.length (kd, n)) (hq : q = xB X + H.1.length) (hl : H.1.length ≤ 999) (hkd : aKd (xs X) H (kd, n))
    (h1 : va_P (xC X, xI X) vwCl (aWs (xd X) (aCA (xs X)) H ++ [(q, e)]) Hp1) (h2 : va_S (aA (xB X)) (xs X).heap Hp1 locs) : aRel X (aNew kd n H) ls Hp1 locs (cells + 1) (slots + n) lsA := by
  subst he
  have hx : q = xd X H.1.length := by rw [hq]; simp only [xd, aAd, if_pos (show H.1.length < 1000 by omega)]
  refine ⟨?_, fun i x hi => ?_, h2, Rl.2.2.2.1, Rl.2.2.2.2.1, ?_, ?_, ?_⟩
  · rw [aWs_new Rl.2.2.2.2.2.2.2, ← hx]; exact h1
  · rcases Nat.lt_trichotomy i H.1.length with hlt | hlt | hlt
    · exact Rl.2.1 i x (by simpa [aNew, List.getElem?_append_left hlt] using hi)
    · subst hlt
      have : x = (kd, n) := by simpa [aNew] using hi.symm
      rw [this]; exact hkd
    · exfalso
      have := (List.getElem?_eq_some_iff.mp hi).1
      rw [aNew_len] at this
      omega
  · have := Rl.2.2.2.2.2.1
    rw [aNew_len]; omega
  · have := Rl.2.2.2.2.2.2.1
    rw [aSz_new]; omega
  · have := Rl.2.2.2.2.2.2.2
    simp [aNew, this]
theorem aNew_pre {kd n : Nat} {H : aH} (h : (aNew kd n H).1 <+: H'.1) : H.1 <+: H'.1 := List.IsPrefix.trans ⟨[(kd, n)], rfl⟩ h
theorem aDef_ok : ∀ ci, ci < 9 → ∀ f, f < aLen ci → defaultValue (aTy ci f) = if aFk ci f = 2 then .null else .int 0 := by decide +kernel
theorem aPre_sz {H : aH} (h : H.1 <+: H'.1) : aSz H ≤ aSz H' := by
  obtain ⟨t, ht⟩ := h
  unfold aSz; rw [← ht]; simp
theorem g_new (C : aCx X cc o d ini H') {j ci : Nat} (hd : decode cc pc = .ok (.new j, 3)) (hl : (o, j, ci) ∈ aNw) (hci : ci < 9) (hH : H.1.length ≤ 900) (G : aGd X H' (pc + 3) ls (.ref H.1.length :: st) (aNew ci (aLen ci) H)) : aGd X H' pc ls st H := by
  refine ⟨aNew_pre G.1, fun Hp locs cells slots lsA Rl => aW.size fun hsz => ?_⟩
  have hsz' := Rl.size C.2.2.2.2.2.2.2.1 (by omega) hsz
  have hin := C.2.2.2.2.1
  have hm : ci ∈ [0, 1, 2, 3, 4, 5, 6, 7, 8] := by
    rcases (show ci = 0 ∨ ci = 1 ∨ ci = 2 ∨ ci = 3 ∨ ci = 4 ∨ ci = 5 ∨ ci = 6 ∨ ci = 7 ∨ ci = 8 by omega) with rfl | rfl | rfl | rfl | rfl | rfl | rfl | rfl | rfl <;> decide
  have hm2 : ci ∈ [0, 1, 2, 3, 4, 5, 6, 7, 8, 9, 10, 11, 12, 13] := by
    rcases (show ci = 0 ∨ ci = 1 ∨ ci = 2 ∨ ci = 3 ∨ ci = 4 ∨ ci = 5 ∨ ci = 6 ∨ ci = 7 ∨ ci = 8 by omega) with rfl | rfl | rfl | rfl | rfl | rfl | rfl | rfl | rfl <;> decide
  have hG1 := G.1.length_le
  have hG2 := aPre_sz G.1
  rw [aNew_len] at hG1
  rw [aSz_new] at hG2
  have hc := C.2.2.2.2.2.2.2.2.2.1
  have hr1 := Rl.2.2.2.2.2.1
  have hr2 := Rl.2.2.2.2.2.2.1
  refine va_new (fs := (List.range (aLen ci)).map (fun k => if aFk ci k = 2 then .null else .int 0)) C.1 C.2.1 hin (aLay_in hci) (aTy ci) (aTy_ok hci) C.2.2.2.1 (hin _ (aTB_in (aNw_ok _ hl) rfl)) (hin _ (aTB_in (aInst_ok _ hm) rfl)) (hin _ (aTB_in (aIni_ok _ hm2) rfl)) C.2.2.2.2.2.1 Rl.1 (aWs_D (by omega)) Rl.2.2.1 (fun q hq => Nat.le_trans C.2.2.2.2.2.2.2.1 hq) (aCl_at hci) (fun f hf => ?_) (by omega) (by omega) hd fun q Hp1 h1 h2 h3 => aW.size fun hs => ?_
  · rw [aDef_ok ci hci f hf, vp_V, List.getD_eq_getElem?_getD, aRng_get _ hf]; rfl
  · have hq := aNew_at h2 h1 rfl (by omega) (by omega)
    have K := G.2 Hp1 locs (cells + 1) (slots + aLen ci) lsA (Rl.new ?_ hq (by omega) (Or.inl ⟨hci, rfl⟩) h1 h3)
    · have e : xd X H.1.length = q := by rw [hq]; simp only [xd, aAd, if_pos (show H.1.length < 1000 by omega)]
      simp only [List.map_cons, aVal, e] at K
      exact K
    · rw [aEnc_obj hci, aNew_zero]
      simp only [aNew_null Rl.2.2.2.2.2.2.2, Option.map_none]
      rfl
theorem aAty_ty {t : ArrayType} (h : aAty t ≠ 99) : newarray.typeOf t = aAT (aAty t) ∧ (aAty t = 20 ∨ aAty t = 21) := by
  cases t <;> first | exact absurd rfl h | exact ⟨rfl, Or.inl rfl⟩ | exact ⟨rfl, Or.inr rfl⟩
theorem aArrCls (t : ArrayType) (h : aAty t ≠ 99) : Cond.arrayClass (newarray.typeOf t) ∈ aTB := by
  cases t <;> first | exact absurd rfl h | exact aTB_in (aBase_ok _ (by first | exact List.mem_of_getElem? (i := 10) rfl | exact List.mem_of_getElem? (i := 11) rfl)) rfl
theorem g_newa (C : aCx X cc o d ini H') {t : ArrayType} {n : Int32} (hd : decode cc pc = .ok (.newarray t, 2)) (ht : aAty t ≠ 99) (hn : ¬ (n < 0 ∨ 1000 < n.toNatClampNeg ∨ 900 < H.1.length)) (G : aGd X H' (pc + 2) ls (.ref H.1.length :: st) (aNew (aAty t) n.toNatClampNeg H)) : aGd X H' pc ls (.int n :: st) H := by
  refine ⟨aNew_pre G.1, fun Hp locs cells slots lsA Rl => aW.size fun hsz => ?_⟩
  have hsz' := Rl.size C.2.2.2.2.2.2.2.1 (by omega) hsz
  have hin := C.2.2.2.2.1
  have hG1 := G.1.length_le
  have hG2 := aPre_sz G.1
  rw [aNew_len] at hG1
  rw [aSz_new] at hG2
  have hc := C.2.2.2.2.2.2.2.2.2.1
  have hr1 := Rl.2.2.2.2.2.1
  have hr2 := Rl.2.2.2.2.2.2.1
  obtain ⟨hty, hkd⟩ := aAty_ty ht
  have hb : componentBytes (aAT (aAty t)) ≤ 8 := by rcases hkd with e | e <;> rw [e] <;> decide
  refine va_newa (a0 := (n.toNatClampNeg, .inl (fun _ => 0))) C.1 C.2.1 (hin _ (aArrCls t ht)) hty C.2.2.2.2.2.1 Rl.1 (aWs_D (by omega)) Rl.2.2.1 (fun q hq => Nat.le_trans C.2.2.2.2.2.2.2.1 hq) (fun cA => ?_) (fun z => hn (Or.inl z)) rfl (Nat.le_trans (Nat.mul_le_mul (show n.toNatClampNeg ≤ 1000 by omega) hb) (by decide)) (by omega) (by omega) hd fun q cA Hp1 hK1 h1 h2 h3 => aW.size fun hs => ?_
  · rw [vp_cell_i]; rcases hkd with e | e <;> rw [e] <;> rfl
  · have hq := aNew_at h2 h1 rfl (by omega) (by omega)
    obtain ⟨k1, k2⟩ := hK1.2 0 _ rfl
    have hcA : aCA (xs X) (aAty t) = cA := by
      rcases hkd with e | e <;> rw [e] at k2 ⊢
      · have : (xs X).vm.findClass ("[" ++ (aAT 20).toString) = some cA := k2
        rw [aCA, this]; rfl
      · have : (xs X).vm.findClass ("[" ++ (aAT 21).toString) = some cA := k2
        rw [aCA, this]; rfl
    have K := G.2 Hp1 locs (cells + 1) (slots + n.toNatClampNeg) lsA (Rl.new ?_ hq (by omega) (Or.inr ⟨by omega, by omega, by dsimp only; rw [hcA]; exact ⟨k1, k2⟩⟩) h1 h3)
    · have e : xd X H.1.length = q := by rw [hq]; simp only [xd, aAd, if_pos (show H.1.length < 1000 by omega)]
      simp only [List.map_cons, aVal, e] at K
      exact K
    · rw [aEnc_ints hkd, aNew_zero, hcA]
theorem g_newq (C : aCx X cc o d ini H') {j kd : Nat} {n : Int32} (hd : decode cc pc = .ok (.anewarray j, 3)) (hl : (o, j, aKc kd) ∈ aNw) (hk : 22 ≤ kd ∧ kd ≤ 24) (hn : ¬ (n < 0 ∨ 1000 < n.toNatClampNeg ∨ 900 < H.1.length)) (G : aGd X H' (pc + 3) ls (.ref H.1.length :: st) (aNew kd n.toNatClampNeg H)) : aGd X H' pc ls (.int n :: st) H := by
  refine ⟨aNew_pre G.1, fun Hp locs cells slots lsA Rl => aW.size fun hsz => ?_⟩
  have hsz' := Rl.size C.2.2.2.2.2.2.2.1 (by omega) hsz
  have hin := C.2.2.2.2.1
  have hG1 := G.1.length_le
  have hG2 := aPre_sz G.1
  rw [aNew_len] at hG1
  rw [aSz_new] at hG2
  have hc := C.2.2.2.2.2.2.2.2.2.1
  have hr1 := Rl.2.2.2.2.2.1
  have hr2 := Rl.2.2.2.2.2.2.1
  have hm : aKc kd ∈ [2, 5, 4] := by unfold aKc; split <;> (try split) <;> decide
  refine va_newq C.1 C.2.1 C.2.2.2.1 (hin _ (aTB_in (aNw_ok _ hl) rfl)) (C.2.2.2.2.2.2.1.2.2.2.2.2.1 _ hm) C.2.2.2.2.2.1 Rl.1 (aWs_D (by omega)) Rl.2.2.1 (fun q hq => Nat.le_trans C.2.2.2.2.2.2.2.1 hq) (fun z => hn (Or.inl z)) rfl (by omega) (by omega) (by omega) hd fun q cA Hp1 hK1 h1 h2 h3 => aW.size fun hs => ?_
  have hq := aNew_at h2 h1 rfl (by omega) (by omega)
  obtain ⟨k1, k2⟩ := hK1.2 0 _ rfl
  have hcA : aCA (xs X) kd = cA := by
    obtain ⟨_, _, _, _, _, h4⟩ := k2
    rw [aCA, aAT_obj hk.1, h4]; rfl
  have K := G.2 Hp1 locs (cells + 1) (slots + n.toNatClampNeg) lsA (Rl.new ?_ hq (by omega) (Or.inr ⟨by omega, hk.2, by dsimp only; rw [hcA, aAT_obj hk.1]; exact ⟨k1, k2⟩⟩) h1 h3)
  · have e : xd X H.1.length = q := by rw [hq]; simp only [xd, aAd, if_pos (show H.1.length < 1000 by omega)]
    simp only [List.map_cons, aVal, e] at K
    exact K
  · rw [aEnc_refs hk.1, hcA]
    simp only [aNew_null Rl.2.2.2.2.2.2.2, Option.map_none]
end RL3
end
section
/-! calls -/
section RL4
variable {X : aX} {cc : ByteArray} {o d : Nat} {ini : Bool} {H' : aH} {pc : Nat} {ls : aLs} {st : List Value} {H : aH}
theorem aCat_map (ad : Nat → Nat) (l : List Value) : ((l.map (aVal ad)).map fun v => v.category).sum = aCat l := by
  unfold aCat; rw [List.map_map]; congr 1; exact List.map_congr_left fun v _ => aVal_cat ad v
theorem g_mm (C : aCx X cc o d ini H') {j b : Nat} {x y : Int32} (hd : decode cc pc = .ok (.invokestatic j, 3)) (hl : (o, j, b) ∈ aBl) (hc : aCat st ≤ 8) (hpre : H.1 <+: H'.1)
    (G : b = 900 ∧ aGd X H' (pc + 3) ls (.int (if x < y then y else x) :: st) H ∨ b = 901 ∧ aGd X H' (pc + 3) ls (.int (if y < x then y else x) :: st) H) : aGd X H' pc ls (.int y :: .int x :: st) H := by
  refine ⟨hpre, fun Hp locs cells slots lsA Rl => ?_⟩
  have hin := C.2.2.2.2.1
  have hb : ∀ w, w ∈ lw_tbl → goodWord w = true → w.before (xa X) (xs X) = true := fun w h g => hin _ (aTB_in h g)
  have hlink := hin _ (aTB_in (aBl_ok _ hl) rfl)
  have hml : (xc X).maxLocals = lsA.size := by rw [Rl.2.2.2.1.1]; exact C.2.2.1
  have h1 := Rl.2.2.2.2.2.1
  have h2 := Rl.2.2.2.2.2.2.1
  have h3 := C.2.2.2.2.2.2.2.2.2.1
  have h4 := hpre.length_le
  have h5 := aPre_sz hpre
  have h6 := C.2.2.2.2.2.2.2.2.1
  have h7 : ((st.map (aVal (xd X))).map fun v => v.category).sum + 13 ≤ (xR X).locals := by rw [aCat_map]; omega
  rcases G with ⟨rfl, G⟩ | ⟨rfl, G⟩
  · exact va_mmax C.1 C.2.1 hml C.2.2.2.1 hlink (hb _ (aBase_ok _ (List.mem_of_getElem? (i := 0) rfl)) rfl) (hb _ (aBase_ok _ (List.mem_of_getElem? (i := 2) rfl)) rfl) (hb _ (aBase_ok _ (List.mem_of_getElem? (i := 3) rfl)) rfl) (by omega) h7 (by omega) (by omega) hd (G.2 _ _ _ _ _ Rl)
  · exact va_mmin C.1 C.2.1 hml C.2.2.2.1 hlink (hb _ (aBase_ok _ (List.mem_of_getElem? (i := 1) rfl)) rfl) (hb _ (aBase_ok _ (List.mem_of_getElem? (i := 2) rfl)) rfl) (hb _ (aBase_ok _ (List.mem_of_getElem? (i := 4) rfl)) rfl) (by omega) h7 (by omega) (by omega) hd (G.2 _ _ _ _ _ Rl)
theorem g_objInit (C : aCx X cc o d ini H') {j a : Nat} (hd : decode cc pc = .ok (.invokespecial j, 3)) (hl : (o, j, 904) ∈ aBl) (hc : aCat st ≤ 8) (G : aGd X H' (pc + 3) ls st H) : aGd X H' pc ls (.ref a :: st) H := by
  refine ⟨G.1, fun Hp locs cells slots lsA Rl => ?_⟩
  have hin := C.2.2.2.2.1
  have hb : ∀ w, w ∈ lw_tbl → goodWord w = true → w.before (xa X) (xs X) = true := fun w h g => hin _ (aTB_in h g)
  have h6 := C.2.2.2.2.2.2.2.2.1
  refine W.objInit C.1 C.2.1 C.2.2.2.1 (hin _ (aTB_in (aBl_ok _ hl) rfl)) (hb _ (aBase_ok _ (List.mem_of_getElem? (i := 8) rfl)) rfl) (hb _ (aBase_ok _ (List.mem_of_getElem? (i := 9) rfl)) rfl) rfl (by rw [show (F0 (xm X) pc lsA ((Value.ref a :: st).map (aVal (xd X)))).locals = lsA from rfl, Rl.2.2.2.1.1]; exact C.2.2.1.symm) rfl hd (by omega) ?_ (G.2 _ _ _ _ _ Rl)
  show 2 * 0 + ((st.map (aVal (xd X))).map fun v => v.category).sum + 12 ≤ _
  rw [aCat_map]; omega
theorem aCpy_row {I : Nat → Nat → Int32} {a b sp dp n : Nat} : aCpy I a b sp dp n b = va_cpy (I a) (I b) sp dp n := by funext j; simp [aCpy]
theorem aEnc_cpy {ad : Nat → Nat} {cA : Nat → ClassId} {I : Nat → Nat → Int32} {P : List (List (Option Nat))} {a b sp dp n i : Nat} {q : Nat × Nat} (h : i ≠ b) : aEnc ad cA (aCpy I a b sp dp n) P i q = aEnc ad cA I P i q := by
  have : aCpy I a b sp dp n i = I i := by funext j; simp [aCpy, h]
  simp only [aEnc, this]
theorem g_copy (C : aCx X cc o d ini H') {j a b n0 n1 kd : Nat} {n dp sp : Int32} (hd : decode cc pc = .ok (.invokestatic j, 3)) (hl : (o, j, 902) ∈ aBl) (ha : H.1[a]? = some (kd, n0)) (hb : H.1[b]? = some (kd, n1)) (hk : kd = 20 ∨ kd = 21) (hcat : aCat st ≤ 8) (h1 : ¬ sp < 0) (h2 : ¬ dp < 0) (h3 : ¬ n < 0) (h4 : sp.toNatClampNeg + n.toNatClampNeg ≤ n0) (h5 : dp.toNatClampNeg + n.toNatClampNeg ≤ n1)
    (hf : kd = 21 → ∀ i, i < n.toNatClampNeg → fits .byte (.int (H.2.1 a (sp.toNatClampNeg + i))) = true)
    (G : aGd X H' (pc + 3) ls st (H.1, aCpy H.2.1 a b sp.toNatClampNeg dp.toNatClampNeg n.toNatClampNeg, H.2.2)) : aGd X H' pc ls (.int n :: .int dp :: .ref b :: .int sp :: .ref a :: st) H := by
  refine ⟨G.1, fun Hp locs cells slots lsA Rl => ?_⟩
  have hin := C.2.2.2.2.1
  have hw : ∀ w, w ∈ lw_tbl → goodWord w = true → w.before (xa X) (xs X) = true := fun w h g => hin _ (aTB_in h g)
  have h6 := C.2.2.2.2.2.2.2.2.1
  have hK := (Rl.2.1 _ _ ha).arr (show 20 ≤ kd by omega) C.2.2.2.2.2.1 rfl
  have hprim : refKind (aAT kd) = false := by rcases hk with rfl | rfl <;> rfl
  refine va_copyi C.1 C.2.1 (by rw [Rl.2.2.2.1.1]; exact C.2.2.1) C.2.2.2.1 (hin _ (aTB_in (aBl_ok _ hl) rfl)) (hw _ (aBase_ok _ (List.mem_of_getElem? (i := 5) rfl)) rfl) (hw _ (aBase_ok _ (List.mem_of_getElem? (i := 6) rfl)) rfl) (hw _ (aBase_ok _ (List.mem_of_getElem? (i := 7) rfl)) rfl) hK Rl.1 (aWs_D (Nat.le_trans G.1.length_le C.2.2.2.2.2.2.2.2.2.2.2.2)) Rl.2.2.1 a b 0 0 ((aWs_get ha).trans (by rw [aEnc_ints hk])) ((aWs_get hb).trans (by rw [aEnc_ints hk])) rfl rfl hprim h1 h2 h3 h4 h5 ?_ (by omega) ?_ hd
    fun Hp1 l1 e1 _ e2 => G.2 _ _ _ _ _ (Rl.set (I := aCpy H.2.1 a b sp.toNatClampNeg dp.toNatClampNeg n.toNatClampNeg) (P := H.2.2) hb (by rw [aEnc_ints hk, aCpy_row]) (fun i q hi => aEnc_cpy hi) rfl e1 e2)
  · intro i hi
    rcases hk with rfl | rfl
    · rfl
    · exact hf rfl i hi
  · rw [aCat_map]
    have : nativeFrameWords "java/lang/System" "arraycopy" 5 ≤ 10 := by decide +kernel
    omega
/-! methods -/
def aPc (C : Nat → ClassId) (S : Nat → Nat → Nat) (base : Nat) (pre : Nat → Nat) (vs : List Value) (H : aH) : Array Value → State → Prop := fun v U => v = (vs.map (aVal (aAd base pre))).toArray ∧ aWd C S base pre H U
def aQc (C : Nat → ClassId) (S : Nat → Nat → Nat) (base : Nat) (pre : Nat → Nat) (r : Option Value) (H1 : aH) : Array Value → State → Outcome → State → Prop := fun _ st oc t => oc = .returned (r.map (aVal (aAd base pre))) ∧ aWo C S base pre H1 t ∧ va_F (aA base) st t
def aWords (q : aMeth) : List Cond := .code q.1 q.2.1 q.2.2.1 q.2.2.2.1 :: aTB
def aOK (cl : Nat → List Value → aH → aRs) (d : Nat) : Prop := ∀ (x : Nat) (vs : List Value) (H : aH) (r : Option Value) (H1 : aH), cl x vs H = some (r, H1) → ∃ q, aMt[x]? = some q ∧ vs.length = q.2.2.2.2.2.1 ∧ H.1 <+: H1.1 ∧
  ∀ (l : Launch) (C : Nat → ClassId) (S : Nat → Nat → Nat) (base : Nat) (pre : Nat → Nat), H1.1.length ≤ 1000 → Met l q.1 (aWords q) { frames := d, cells := H1.1.length - H.1.length, slots := aSz H1 - aSz H, locals := 32 * d } (aPc C S base pre vs H) (aQc C S base pre r H1) (H1.1.length - H.1.length) (aSz H1 - aSz H) (aA base)
theorem aGl.same {base : Nat} {pre : Nat → Nat} {s U : State} (h : aGl base pre s) (hv : U.vm = s.vm) (hh : U.heap = s.heap) : aGl base pre U := by
  obtain ⟨h1, h2, h3, h5, h6, h7, h4⟩ := h
  have hA : s.vm.Alike U.vm := by rw [hv]; exact Vm.Alike.refl _
  have hk : ∀ a : Nat, a < s.heap.size → ¬ aA base a → U.heap[a]? = s.heap[a]? := fun a _ _ => by rw [hh]
  exact ⟨fun a ha hb => ⟨((h1 a ha hb).1.moved hA).kept hk, fun q hq => (((h1 a ha hb).2 q hq).moved hA).kept hk⟩, fun e he => (h2 e he).same hv, (h3.moved hA).kept hk, fun e he => (h5 e he).same rfl hv.symm, fun e he => (h6 e he).same rfl hv.symm, fun e he => (h7 e he).moved hA, (h4.moved hA).kept hk⟩
theorem aPc_blind {C : Nat → ClassId} {S : Nat → Nat → Nat} {base : Nat} {pre : Nat → Nat} {vs : List Value} {H : aH} : FrameBlind (aPc C S base pre vs H) := by
  intro a U g mk h
  obtain ⟨h1, ⟨h2, h3, h4, h5⟩, h6, h7⟩ := h
  have hv : (U.calling g mk a).vm = U.vm := rfl
  have hA : U.vm.Alike (U.calling g mk a).vm := by rw [hv]; exact Vm.Alike.refl _
  exact ⟨h1, ⟨h2, by rw [aCA_moved hA]; exact h3, fun i q hq => (h4 i q hq).moved hA, h5⟩, h6.moved hA, h7.same rfl rfl⟩
theorem aPc_at (C : aCx X cc o d ini H') {vs : List Value} {Hp : Heap} {locs : List Loc} {cells slots : Nat} {lsA : Array Slot} (Rl : aRel X H ls Hp locs cells slots lsA) (hl : H.1.length ≤ 1000) (hsz : Hp.size ≤ (xs X).heap.size + cells) {as : List Value} (has : as = vs.map (aVal (xd X))) : ∀ U : State, U.heap = Hp → (xs X).WarmedH U.vm → aPc (xC X) (xI X) (xB X) (xE X) vs H as.toArray U := by
  intro U hU hW
  have hA := hW.alike
  refine ⟨by rw [has], ⟨by rw [hU]; exact Rl.size C.2.2.2.2.2.2.2.1 hl hsz, ?_, fun i q hq => (Rl.2.1 i q hq).moved hA, Rl.2.2.2.2.2.2.2⟩, C.2.2.2.2.2.1.moved hA, C.2.2.2.2.2.2.1.to hW fun a h1 h2 => ?_⟩
  · rw [aCA_moved hA, hU]; exact Rl.1
  · rw [hU]; exact Rl.2.2.1.2.1 a h1 h2
theorem aMt_at {x : Nat} {q : aMeth} (h : aMt[x]? = some q) : (q.1.cls = q.2.2.2.2.1 ∧ q.1.cls ≠ "java/lang/invoke/MethodHandle" ∧ q.1.cls ≠ "java/lang/invoke/VarHandle" ∧ (parseMethodDescriptor q.1.desc).map (fun d => d.parameters.length) = some (if q.2.2.2.2.2.2.1 = 0 then q.2.2.2.2.2.1 else q.2.2.2.2.2.1 - 1)) ∧ (q.2.2.2.2.2.2.1 = 0 ∨ 1 ≤ q.2.2.2.2.2.1) ∧ (q.2.2.2.2.2.2.1 = 2 → q.1.name = "<init>" ∧ q.2.2.2.1 = none) ∧ plainName q.1.cls = true ∧ q.2.2.1 ≤ 13 ∧ aRt q.2.2.2.1 ≤ 3 := by
  have h1 := List.all_eq_true.mp aMt_s q (List.mem_of_getElem? h)
  simp only [Bool.and_eq_true, decide_eq_true_eq] at h1
  obtain ⟨⟨⟨⟨⟨⟨⟨⟨h1, h2⟩, h3⟩, h4⟩, h5⟩, h6⟩, h7⟩, h8⟩, h9⟩ := h1
  exact ⟨⟨h1, h2, h3, h4⟩, h5, h6, h7, h8, h9⟩
theorem aGoodIn (q : aMeth) (hq : q ∈ aMt) : GoodIn aTB (aWords q) := fun w hw => by
  rcases List.mem_cons.mp hw with rfl | hw
  · exact ⟨aTB_in (aCode_ok q hq) rfl, good_of_word rfl⟩
  · exact ⟨hw, good_of_word (List.all_eq_true.mp aTB_good w hw)⟩
/-- behind a call -/
theorem aBack (C : aCx X cc o d ini H') {r : Option Value} {H1 : aH} {Hp : Heap} {locs : List Loc} {cells slots : Nat} {lsA : Array Slot} {stk : List Value} {av : Array Value} (Rl : aRel X H ls Hp locs cells slots lsA) (hpre : H.1 <+: H1.1)
    (hr : va_Run (xp X) (xl X) (xe X) (xR X) (xs X) (xm X) (xa X) (xb X) (xM X) (xc X) Hp locs cells slots (H1.1.length - H.1.length) (aSz H1 - aSz H) (F0 (xm X) pc lsA stk) (st.map (aVal (xd X))) (aQc (xC X) (xI X) (xB X) (xE X) r H1 av) (aA (xB X)))
    (G : aGd X H' (pc + 3) ls (r.toList ++ st) H1) : aW X Hp locs cells slots (F0 (xm X) pc lsA stk) := by
  intro T hT St
  obtain ⟨v, st0, t, T', L, e0, St', hL, e1, e2, ⟨hv, ⟨w1, w2, w3, w4⟩, hF⟩, hgo⟩ := hr T hT St
  cases hv
  have hA : (xs X).vm.Alike t.vm := by rw [← e2]; exact St'.warmed.alike
  have hle := hpre.length_le
  have hls := aPre_sz hpre
  have c1 := Rl.2.2.2.2.2.1
  have c2 := Rl.2.2.2.2.2.2.1
  have Rl' : aRel X H1 ls T'.heap (locs ++ L) (cells + (H1.1.length - H.1.length)) (slots + (aSz H1 - aSz H)) lsA := by
    refine ⟨?_, fun i q hq => (w3 i q hq).moved hA.symm, ?_, Rl.2.2.2.1, Rl.2.2.2.2.1, by omega, by omega, w4⟩
    · rw [← aCA_moved hA, e1]; exact w2
    · unfold va_F at hF; rw [e0] at hF
      exact ⟨Nat.le_trans Rl.2.2.1.1 (by rw [e1]; exact hF.1), fun q h1 h2 => by rw [e1, hF.2 q (Nat.lt_of_lt_of_le h1 Rl.2.2.1.1) h2]; exact Rl.2.2.1.2.1 q h1 h2, fun q hq => by
        rcases List.mem_append.mp hq with h | h
        · exact Rl.2.2.1.2.2 q h
        · exact hL q h⟩
  obtain ⟨t2, a1, b1⟩ := G.2 _ _ _ _ _ Rl' T' rfl St'
  refine ⟨t2, hgo t2 ?_, b1⟩
  have : ((r.map (aVal (aAd (xB X) (xE X)))).toList ++ st.map (aVal (xd X))) = (r.toList ++ st).map (aVal (xd X)) := by cases r <;> rfl
  rw [this]
  exact a1
theorem aKn_at {x : Nat} {q : aMeth} (h : aMt[x]? = some q) : aKn x = q.2.2.2.2.2.2.1 ∧ aNa x = q.2.2.2.2.2.1 ∧ aY x = q.1 := by
  unfold aKn aNa aY; rw [h]; exact ⟨rfl, rfl, rfl⟩
theorem aRooms (C : aCx X cc o d ini H') {H1 : aH} {Hp : Heap} {locs : List Loc} {cells slots : Nat} {lsA : Array Slot} (Rl : aRel X H ls Hp locs cells slots lsA) (h1 : H.1 <+: H1.1) (h2 : H1.1 <+: H'.1) : cells + (H1.1.length - H.1.length) ≤ (xR X).cells ∧ slots + (aSz H1 - aSz H) ≤ (xR X).slots := by
  have a1 := h1.length_le; have a2 := h2.length_le; have a3 := aPre_sz h1; have a4 := aPre_sz h2
  have a5 := Rl.2.2.2.2.2.1; have a6 := Rl.2.2.2.2.2.2.1; have a7 := C.2.2.2.2.2.2.2.2.2.1
  omega
theorem aSel_at {q : aMeth} (hq : q ∈ aMt) (hk : q.2.2.2.2.2.2.1 = 1) : Cond.selects q.2.2.2.2.1 q.1 q.1 ∈ lw_tbl := aSel_ok q (List.mem_filter.mpr ⟨hq, by simp [hk]⟩)
theorem aIniM {q : aMeth} {x oc : Nat} (hq : aMt[x]? = some q) (ho : aOc[x]? = some oc) : q.1.cls = aO oc ∧ oc < 14 := by
  have : ∀ e ∈ aMt.zip aOc, e.1.1.cls = aO e.2 ∧ e.2 < 14 := by decide +kernel
  exact this (q, oc) (List.mem_of_getElem? (i := x) (by rw [List.getElem?_zip_eq_some]; exact ⟨hq, ho⟩))
theorem aIni_mem {oc : Nat} (h : oc < 14) : Cond.initialized (aO oc) ∈ lw_tbl := by
  refine aIni_ok oc ?_
  rcases (show oc = 0 ∨ oc = 1 ∨ oc = 2 ∨ oc = 3 ∨ oc = 4 ∨ oc = 5 ∨ oc = 6 ∨ oc = 7 ∨ oc = 8 ∨ oc = 9 ∨ oc = 10 ∨ oc = 11 ∨ oc = 12 ∨ oc = 13 by omega) with rfl | rfl | rfl | rfl | rfl | rfl | rfl | rfl | rfl | rfl | rfl | rfl | rfl | rfl <;> decide
theorem aOc_of {x : Nat} {q : aMeth} (hq : aMt[x]? = some q) : ∃ oc, aOc[x]? = some oc := by
  have h := (List.getElem?_eq_some_iff.mp hq).1
  have e : aMt.length = aOc.length := by decide +kernel
  exact ⟨_, List.getElem?_eq_getElem (by omega)⟩
theorem g_callS (C : aCx X cc o d ini H') {cl : Nat → List Value → aH → aRs} (ok : aOK cl d) {j x y : Nat} {r : Option Value} {H1 : aH} (hd : decode cc pc = .ok (.invokestatic j, 3)) (hl : (o, j, x) ∈ aIv ∨ (o, j, x) ∈ aIn) (hk : aKn x = 0 ∧ aNa x = y) (hy : y ≤ st.length ∧ aCat (st.drop y) ≤ 8) (hcl : cl x (st.take y).reverse H = some (r, H1))
    (G : aGd X H' (pc + 3) ls (r.toList ++ st.drop y) H1) : aGd X H' pc ls st H := by
  obtain ⟨q, hq, hn, hpre, hM⟩ := ok x _ H r H1 hcl
  refine ⟨hpre.trans G.1, fun Hp locs cells slots lsA Rl => aW.size fun hsz => ?_⟩
  have hM := hM (xl X) (xC X) (xI X) (xB X) (xE X) (Nat.le_trans G.1.length_le C.2.2.2.2.2.2.2.2.2.2.2.2)
  obtain ⟨⟨m1, m2, m3, m4⟩, m5, m6, m7, m8, m9⟩ := aMt_at hq
  obtain ⟨k1, k2, k3⟩ := aKn_at hq
  rw [← k1, hk.1] at m4
  rw [if_pos rfl, ← k2, hk.2] at m4
  obtain ⟨oc, hoc⟩ := aOc_of hq
  obtain ⟨i1, i2⟩ := aIniM hq hoc
  have hmem := List.mem_of_getElem? hq
  have hin := C.2.2.2.2.1
  have hini : (Cond.initialized q.1.cls).before (xa X) (xs X) = true := by rw [i1]; exact hin _ (aTB_in (aIni_mem i2) rfl)
  have hst : (Cond.static q.1).before (xa X) (xs X) = true := by
    have h := aKind_ok q hmem
    rw [← k1, hk.1] at h
    exact hin _ (aTB_in (by simpa using h) rfl)
  have hroom := C.2.2.2.2.2.2.2.2.1
  have hL := Nat.le_trans (hpre.trans G.1).length_le C.2.2.2.2.2.2.2.2.2.2.2.2
  have hP : PreS (xs X) Hp (aPc (xC X) (xI X) (xB X) (xE X) (st.take y).reverse H) ((st.take y).reverse.map (aVal (xd X))) := ⟨aPc_blind, aPc_at C Rl hL hsz rfl⟩
  have hnn : ((st.take y).reverse.map (aVal (xd X))).length = y := by rw [List.length_map, List.length_reverse, List.length_take]; omega
  have hstk : st.map (aVal (xd X)) = ((st.take y).reverse.map (aVal (xd X))).reverse ++ (st.drop y).map (aVal (xd X)) := by
    rw [List.map_reverse, List.reverse_reverse, ← List.map_append, List.take_append_drop]
  have hR : d + 1 ≤ (xR X).frames ∧ 8 + (q.2.2.1 + 11) + 32 * d ≤ (xR X).locals := by omega
  have hS : CallFix (xp X) (xm X) (xc X) cc (xN X) (xs X) (xa X) aTB (aO o) := ⟨C.1, C.2.1, C.2.2.1, C.2.2.2.1, hin⟩
  rcases hl with hl | hl
  · have hlk : (Cond.methodLink (aO o) j q.1).before (xa X) (xs X) = true := by rw [← k3]; exact hin _ (aTB_in (aIv_ok _ hl) rfl)
    exact aBack C Rl hpre (va_runS (n := y) hS hM ⟨callB_of y hin (aGoodIn q hmem) rfl rfl rfl hini hlk ⟨m2, m3, m4⟩ hR, hst⟩ hP rfl hnn (by exact Rl.2.2.2.1.1) hstk (by show 2 * 0 + _ ≤ 8; rw [aCat_map]; omega) hd (aRooms C Rl hpre G.1)) G
  · have hlk : va_Nw (.methodLinkNest (aO o) j q.1 RX7) (xs X) := by rw [← k3]; exact C.2.2.2.2.2.2.1.2.2.2.2.1 _ hl
    exact aBack C Rl hpre (va_runSN (n := y) hS hM ⟨va_cnB y hin (aGoodIn q hmem) rfl rfl rfl hlk hini ⟨m2, m3, m4⟩ hR, hst, trivial⟩ hP rfl hnn (by exact Rl.2.2.2.1.1) hstk (by show 2 * 0 + _ ≤ 8; rw [aCat_map]; omega) hd (aRooms C Rl hpre G.1)) G
theorem aTake {st : List Value} {m : Nat} {v : Value} (h : st[m]? = some v) : (st.take (m + 1)).reverse = v :: (st.take m).reverse ∧ st = st.take m ++ v :: st.drop (m + 1) := by
  have hm := (List.getElem?_eq_some_iff.mp h)
  have e : st.take (m + 1) = st.take m ++ [v] := by rw [List.take_add_one, h]; rfl
  refine ⟨by rw [e]; simp, ?_⟩
  conv => lhs; rw [← List.take_append_drop (m + 1) st, e]
  simp
theorem g_callV (C : aCx X cc o d ini H') {cl : Nat → List Value → aH → aRs} (ok : aOK cl d) {j x m ci b : Nat} {r : Option Value} {H1 : aH} (hd : decode cc pc = .ok (.invokevirtual j, 3)) (hl : (o, j, x) ∈ aIv) (hk : aKn x = 1 ∧ aNa x = m + 1 ∧ aOc[x]? = some ci) (hb : st[m]? = some (.ref b)) (hrec : H.1[b]? = some (ci, aLen ci) ∨ (ci = 12 ∧ 2000 ≤ b ∧ b < 2003)) (hy : m + 1 ≤ st.length ∧ aCat (st.drop (m + 1)) ≤ 8) (hcl : cl x (st.take (m + 1)).reverse H = some (r, H1))
    (G : aGd X H' (pc + 3) ls (r.toList ++ st.drop (m + 1)) H1) : aGd X H' pc ls st H := by
  obtain ⟨q, hq, hn, hpre, hM⟩ := ok x _ H r H1 hcl
  refine ⟨hpre.trans G.1, fun Hp locs cells slots lsA Rl => aW.size fun hsz => ?_⟩
  have hM := hM (xl X) (xC X) (xI X) (xB X) (xE X) (Nat.le_trans G.1.length_le C.2.2.2.2.2.2.2.2.2.2.2.2)
  obtain ⟨⟨m1, m2, m3, m4⟩, m5, m6, m7, m8, m9⟩ := aMt_at hq
  obtain ⟨k1, k2, k3⟩ := aKn_at hq
  rw [← k1, hk.1, ← k2, hk.2.1] at m4
  rw [if_neg (by omega), Nat.add_sub_cancel] at m4
  obtain ⟨i1, i2⟩ := aIniM hq hk.2.2
  have hmem := List.mem_of_getElem? hq
  have hin := C.2.2.2.2.1
  have hini : (Cond.initialized q.1.cls).before (xa X) (xs X) = true := by rw [i1]; exact hin _ (aTB_in (aIni_mem i2) rfl)
  have hst : (Cond.instanceMethod q.1).before (xa X) (xs X) = true := by
    have h := aKind_ok q hmem
    rw [← k1, hk.1] at h
    exact hin _ (aTB_in (by simpa using h) rfl)
  have hsel : (Cond.selects (aO ci) q.1 q.1).before (xa X) (xs X) = true := by
    have h := aSel_at hmem (by rw [← k1]; exact hk.1)
    rw [← m1, i1] at h
    exact hin _ (aTB_in h rfl)
  have hroom := C.2.2.2.2.2.2.2.2.1
  have hL := Nat.le_trans (hpre.trans G.1).length_le C.2.2.2.2.2.2.2.2.2.2.2.2
  obtain ⟨t1, t2⟩ := aTake hb
  have hcell : ∃ cellB : Cell, Hp[xd X b]? = some cellB ∧ cellB.vm.isStatics = false ∧ (xs X).vm.findClass (aO ci) = some cellB.cls := by
    rcases hrec with hrec | ⟨rfl, h1, h2⟩
    · have hci : ci < 9 := by
        rcases Rl.2.1 _ _ hrec with h | h
        · exact h.1
        · exfalso
          obtain ⟨g1, -⟩ := h
          dsimp only at g1
          omega
      have h := Rl.1 b _ ((aWs_get hrec).trans (by rw [aEnc_obj hci]))
      obtain ⟨r0, hr0, cell, g1, g2, g3, -⟩ := h
      rw [aCl_at hci] at hr0
      cases hr0
      have hKn := (C.2.2.2.2.2.1.1 ci _ (aCl_at hci)).2.1
      exact ⟨cell, g1, by rw [g3]; rfl, by rw [g2]; exact hKn⟩
    · have e1 : xd X b = xE X (2000 + (b - 2000)) := by rw [show 2000 + (b - 2000) = b by omega]; exact if_neg (by omega)
      have h := vk_recv (aStr C) (show b - 2000 < 3 by omega) Rl.2.2.1
      have e2 : aO 12 = "java/lang/String" := rfl
      rw [e1, e2]; exact h
  have hP : PreV (xs X) Hp (aO ci) (xd X b) (aPc (xC X) (xI X) (xB X) (xE X) (st.take (m + 1)).reverse H) ((st.take m).reverse.map (aVal (xd X))) := ⟨aPc_blind, hcell, aPc_at C Rl hL hsz (by rw [t1]; rfl)⟩
  have hnn : ((st.take m).reverse.map (aVal (xd X))).length = m := by rw [List.length_map, List.length_reverse, List.length_take]; omega
  have hstk : st.map (aVal (xd X)) = ((st.take m).reverse.map (aVal (xd X))).reverse ++ .ref (xd X b) :: (st.drop (m + 1)).map (aVal (xd X)) := by
    rw [List.map_reverse, List.reverse_reverse]
    conv => lhs; rw [t2]
    rw [List.map_append]; rfl
  have hR : d + 1 ≤ (xR X).frames ∧ 8 + (q.2.2.1 + 11) + 32 * d ≤ (xR X).locals := by omega
  have hS : CallFix (xp X) (xm X) (xc X) cc (xN X) (xs X) (xa X) aTB (aO o) := ⟨C.1, C.2.1, C.2.2.1, C.2.2.2.1, hin⟩
  have hlk : (Cond.methodLink (aO o) j q.1).before (xa X) (xs X) = true := by rw [← k3]; exact hin _ (aTB_in (aIv_ok _ hl) rfl)
  exact aBack C Rl hpre (va_runV (n := m) hS hM ⟨callB_of m hin (aGoodIn q hmem) rfl rfl rfl hini hlk ⟨m2, m3, m4⟩ hR, hst, hsel⟩ hP rfl hnn (by exact Rl.2.2.2.1.1) hstk (by show 2 * 0 + _ ≤ 8; rw [aCat_map]; omega) hd (aRooms C Rl hpre G.1)) G
theorem g_callC (C : aCx X cc o d ini H') {cl : Nat → List Value → aH → aRs} (ok : aOK cl d) {j x m b : Nat} {r : Option Value} {H1 : aH} (hd : decode cc pc = .ok (.invokespecial j, 3)) (hl : (o, j, x) ∈ aIv ∨ (o, j, x) ∈ aIn) (hk : aKn x = 2 ∧ aNa x = m + 1) (hb : st[m]? = some (.ref b)) (hy : m + 1 ≤ st.length ∧ aCat (st.drop (m + 1)) ≤ 8) (hcl : cl x (st.take (m + 1)).reverse H = some (r, H1))
    (G : aGd X H' (pc + 3) ls (r.toList ++ st.drop (m + 1)) H1) : aGd X H' pc ls st H := by
  obtain ⟨q, hq, hn, hpre, hM⟩ := ok x _ H r H1 hcl
  refine ⟨hpre.trans G.1, fun Hp locs cells slots lsA Rl => aW.size fun hsz => ?_⟩
  have hM := hM (xl X) (xC X) (xI X) (xB X) (xE X) (Nat.le_trans G.1.length_le C.2.2.2.2.2.2.2.2.2.2.2.2)
  obtain ⟨⟨m1, m2, m3, m4⟩, m5, m6, m7, m8, m9⟩ := aMt_at hq
  obtain ⟨k1, k2, k3⟩ := aKn_at hq
  rw [← k1, hk.1, ← k2, hk.2] at m4
  rw [if_neg (by omega), Nat.add_sub_cancel] at m4
  obtain ⟨n1, n2⟩ := m6 (by rw [← k1]; exact hk.1)
  obtain ⟨oc, hoc⟩ := aOc_of hq
  obtain ⟨i1, i2⟩ := aIniM hq hoc
  have hmem := List.mem_of_getElem? hq
  have hin := C.2.2.2.2.1
  have hini : (Cond.initialized q.1.cls).before (xa X) (xs X) = true := by rw [i1]; exact hin _ (aTB_in (aIni_mem i2) rfl)
  have hst : (Cond.instanceMethod q.1).before (xa X) (xs X) = true := by
    have h := aKind_ok q hmem
    rw [← k1, hk.1] at h
    exact hin _ (aTB_in (by simpa using h) rfl)
  have hroom := C.2.2.2.2.2.2.2.2.1
  have hL := Nat.le_trans (hpre.trans G.1).length_le C.2.2.2.2.2.2.2.2.2.2.2.2
  obtain ⟨t1, t2⟩ := aTake hb
  have hP : PreS (xs X) Hp (aPc (xC X) (xI X) (xB X) (xE X) (st.take (m + 1)).reverse H) (.ref (xd X b) :: (st.take m).reverse.map (aVal (xd X))) := ⟨aPc_blind, aPc_at C Rl hL hsz (by rw [t1]; rfl)⟩
  have hnn : ((st.take m).reverse.map (aVal (xd X))).length = m := by rw [List.length_map, List.length_reverse, List.length_take]; omega
  have hstk : st.map (aVal (xd X)) = ((st.take m).reverse.map (aVal (xd X))).reverse ++ .ref (xd X b) :: (st.drop (m + 1)).map (aVal (xd X)) := by
    rw [List.map_reverse, List.reverse_reverse]
    conv => lhs; rw [t2]
    rw [List.map_append]; rfl
  have hR : d + 1 ≤ (xR X).frames ∧ 8 + (q.2.2.1 + 11) + 32 * d ≤ (xR X).locals := by omega
  have hS : CallFix (xp X) (xm X) (xc X) cc (xN X) (xs X) (xa X) aTB (aO o) := ⟨C.1, C.2.1, C.2.2.1, C.2.2.2.1, hin⟩
  have hw : aWords q = Cond.code q.1 q.2.1 q.2.2.1 none :: aTB := by unfold aWords; rw [n2]
  rcases hl with hl | hl
  · have hlk : (Cond.methodLink (aO o) j q.1).before (xa X) (xs X) = true := by rw [← k3]; exact hin _ (aTB_in (aIv_ok _ hl) rfl)
    exact aBack C Rl hpre (va_runI (n := m) hS hM ⟨callB_of m hin (aGoodIn q hmem) hw rfl rfl hini hlk ⟨m2, m3, m4⟩ hR, n1, hst⟩ hP rfl hnn (by exact Rl.2.2.2.1.1) hstk (by show 2 * 0 + _ ≤ 8; rw [aCat_map]; omega) hd (aRooms C Rl hpre G.1)) G
  · have hlk : va_Nw (.methodLinkNest (aO o) j q.1 RX7) (xs X) := by rw [← k3]; exact C.2.2.2.2.2.2.1.2.2.2.2.1 _ hl
    exact aBack C Rl hpre (va_runIN (n := m) hS hM ⟨va_cnB m hin (aGoodIn q hmem) hw rfl rfl hlk hini ⟨m2, m3, m4⟩ hR, n1, hst⟩ hP rfl hnn (by exact Rl.2.2.2.1.1) hstk (by show 2 * 0 + _ ≤ 8; rw [aCat_map]; omega) hd (aRooms C Rl hpre G.1)) G
end RL4
end
section
/-! what the interpreter comes to, the machine comes to -/
theorem aFetch_spec {cd : aCd} {pc : Nat} {q : aCI} (h : aFetch cd pc = some q) : (∃ l ∈ cd, q ∈ l) ∧ q.1 = pc := by
  unfold aFetch at h
  split at h
  · rename_i l hl
    exact ⟨⟨l, List.mem_of_getElem? hl, List.mem_of_find?_eq_some h⟩, by simpa using List.find?_some h⟩
  · cases h
def aFin (cc : ByteArray) (rt : Nat) (r : Option Value) (pc : Nat) : Prop :=
  (∃ v, r = some (.int v) ∧ decode cc pc = .ok (.ireturn, 1) ∧ (rt = 0 ∨ rt = 1 ∧ (v = 0 ∨ v = 1))) ∨ (∃ v, r = some v ∧ (v = .null ∨ ∃ a, v = .ref a) ∧ decode cc pc = .ok (.areturn, 1) ∧ rt = 2) ∨ (r = none ∧ decode cc pc = .ok (.return_, 1) ∧ rt = 3)
theorem aIte_i {c : Prop} [Decidable c] {a b : aRs} {r : Option Value × aH} (h : (if c then a else b) = some r) : c ∧ a = some r ∨ ¬ c ∧ b = some r := by
  by_cases hc : c
  · rw [if_pos hc] at h; exact Or.inl ⟨hc, h⟩
  · rw [if_neg hc] at h; exact Or.inr ⟨hc, h⟩
section SND
variable {X : aX} {cc : ByteArray} {o d : Nat} {ini : Bool} {H' : aH} {cl : Nat → List Value → aH → aRs} {cd : aCd} {rt : Nat} {r : Option Value}
theorem aBin_i {k : List Value → aRs} {f : Int32 → Int32 → Int32} {st : List Value} {z : Option Value × aH} (h : aBin k f st = some z) : ∃ x y st', st = .int y :: .int x :: st' ∧ k (.int (f x y) :: st') = some z := by
  unfold aBin at h; split at h
  · exact ⟨_, _, _, rfl, h⟩
  · cases h
theorem aUn_i {k : List Value → aRs} {f : Int32 → Int32} {st : List Value} {z : Option Value × aH} (h : aUn k f st = some z) : ∃ x st', st = .int x :: st' ∧ k (.int (f x) :: st') = some z := by
  unfold aUn at h; split at h
  · exact ⟨_, _, rfl, h⟩
  · cases h
theorem aBinL_i {k : List Value → aRs} {f : Int64 → Int64 → Int64} {st : List Value} {z : Option Value × aH} (h : aBinL k f st = some z) : ∃ x y st', st = .long y :: .long x :: st' ∧ k (.long (f x y) :: st') = some z := by
  unfold aBinL at h; split at h
  · exact ⟨_, _, _, rfl, h⟩
  · cases h
theorem aShL_i {k : List Value → aRs} {f : Int64 → Int32 → Int64} {st : List Value} {z : Option Value × aH} (h : aShL k f st = some z) : ∃ x y st', st = .int y :: .long x :: st' ∧ k (.long (f x y) :: st') = some z := by
  unfold aShL at h; split at h
  · exact ⟨_, _, _, rfl, h⟩
  · cases h
theorem aMax_i {k : List Value → aRs} {st : List Value} {z : Option Value × aH} (h : aMax k st = some z) : ∃ x y st', st = .int y :: .int x :: st' ∧ aCat st' ≤ 8 ∧ k (.int (if x < y then y else x) :: st') = some z := by
  unfold aMax at h
  cases st with
  | nil => cases h
  | cons a st =>
    cases st with
    | nil => cases a <;> cases h
    | cons b st =>
      cases a <;> cases b <;> first
        | (cases h; done)
        | (dsimp only at h; rcases aIte_i h with ⟨hc, h⟩ | ⟨_, h⟩ <;> first | exact ⟨_, _, _, rfl, hc, h⟩ | cases h)
theorem aMin_i {k : List Value → aRs} {st : List Value} {z : Option Value × aH} (h : aMin k st = some z) : ∃ x y st', st = .int y :: .int x :: st' ∧ aCat st' ≤ 8 ∧ k (.int (if y < x then y else x) :: st') = some z := by
  unfold aMin at h
  cases st with
  | nil => cases h
  | cons a st =>
    cases st with
    | nil => cases a <;> cases h
    | cons b st =>
      cases a <;> cases b <;> first
        | (cases h; done)
        | (dsimp only at h; rcases aIte_i h with ⟨hc, h⟩ | ⟨_, h⟩ <;> first | exact ⟨_, _, _, rfl, hc, h⟩ | cases h)
theorem aPop_i {k : List Value → aRs} {st : List Value} {z : Option Value × aH} (h : aPop k st = some z) : ∃ a st', st = .ref a :: st' ∧ aCat st' ≤ 8 ∧ k st' = some z := by
  unfold aPop at h
  cases st with
  | nil => cases h
  | cons a st =>
      cases a <;> first
        | (cases h; done)
        | (dsimp only at h; rcases aIte_i h with ⟨hc, h⟩ | ⟨_, h⟩ <;> first | exact ⟨_, _, rfl, hc, h⟩ | cases h)
theorem aCopy_i {k : List Value → aH → aRs} {H : aH} {st : List Value} {z : Option Value × aH} (h : aCopy k H st = some z) : ∃ n dp b sp a st' q r, st = .int n :: .int dp :: .ref b :: .int sp :: .ref a :: st' ∧ H.1[a]? = some q ∧ H.1[b]? = some r ∧ ((q.1 = 20 ∨ q.1 = 21) ∧ aCat st' ≤ 8 ∧ r.1 = q.1 ∧ ¬ sp < 0 ∧ ¬ dp < 0 ∧ ¬ n < 0 ∧ sp.toNatClampNeg + n.toNatClampNeg ≤ q.2 ∧ dp.toNatClampNeg + n.toNatClampNeg ≤ r.2 ∧ (q.1 = 21 → ∀ i, i < n.toNatClampNeg → fits .byte (.int (H.2.1 a (sp.toNatClampNeg + i))) = true)) ∧ k st' (H.1, aCpy H.2.1 a b sp.toNatClampNeg dp.toNatClampNeg n.toNatClampNeg, H.2.2) = some z := by
  unfold aCopy at h
  match st, h with
  | .int n :: .int dp :: .ref b :: .int sp :: .ref a :: st', h =>
    dsimp only at h
    cases hq : H.1[a]? with
    | none => rw [hq] at h; cases h
    | some q =>
      cases hr : H.1[b]? with
      | none => rw [hq, hr] at h; cases h
      | some r =>
        rw [hq, hr] at h
        dsimp only at h
        rcases aIte_i h with ⟨hc, h⟩ | ⟨_, h⟩
        · exact ⟨n, dp, b, sp, a, st', q, r, rfl, hq, hr, hc, h⟩
        · cases h
theorem aRet_i {k : List Value → aH → aRs} {q : aRs} {st : List Value} {z : Option Value × aH} (h : aRet k q st = some z) : ∃ r1 H1, q = some (r1, H1) ∧ k (r1.toList ++ st) H1 = some z := by
  unfold aRet at h; split at h
  · exact ⟨_, _, rfl, h⟩
  · exact ⟨_, _, rfl, h⟩
  · cases h
theorem aCallI_i {k : List Value → aH → aRs} {x y : Nat} {H : aH} {st : List Value} {z : Option Value × aH} (h : aCallI k cl x y H st = some z) : (y ≤ st.length ∧ aCat (st.drop y) ≤ 8) ∧ ∃ r1 H1, cl x (st.take y).reverse H = some (r1, H1) ∧ k (r1.toList ++ st.drop y) H1 = some z := by
  unfold aCallI at h
  rcases aIte_i h with ⟨hc, h⟩ | ⟨_, h⟩
  · exact ⟨hc, aRet_i h⟩
  · cases h
set_option maxHeartbeats 8000000 in
theorem aSound (C : aCx X cc o d ini H') (ok : aOK cl d) (hcd : cd.all (fun l => l.all (aChk o cc ini)) = true)
    (K : ∀ (Hp : Heap) (locs : List Loc) (cells slots : Nat) (lsA : Array Slot) (pc : Nat) (ls : aLs), aRel X H' ls Hp locs cells slots lsA → aFin cc rt r pc → aW X Hp locs cells slots (F0 (xm X) pc lsA (r.map (aVal (xd X))).toList)) :
    ∀ (n pc : Nat) (ls : aLs) (st : List Value) (H : aH), aRun cl (xS X) cd rt n pc ls st H = some (r, H') → aGd X H' pc ls st H := by
  intro n
  induction n with
  | zero => intro pc ls st H h; cases h
  | succ n ih =>
    intro pc ls st H h
    rw [aRun] at h
    split at h
    case h_2 => cases h
    rename_i q hq
    obtain ⟨⟨l, hl, hql⟩, hpc⟩ := aFetch_spec hq
    have hchk := List.all_eq_true.mp (List.all_eq_true.mp hcd l hl) q hql
    obtain ⟨pc', len, i, x, y, c, sw⟩ := q
    dsimp only at hpc
    subst hpc
    simp only [aChk, Bool.and_eq_true, decide_eq_true_eq] at hchk
    obtain ⟨⟨hd, hlen⟩, hinfo⟩ := hchk
    have hlen : aSwi i = true ∨ len = aLn i := by simpa only [Bool.or_eq_true, decide_eq_true_eq] using hlen
    clear hq hql
    cases i <;> simp only [aStep] at h <;> (try cases h) <;> simp only [aSwi, Bool.false_eq_true, false_or, true_or, aLn] at hlen <;> (try subst hlen) <;> simp only [aInfo, Bool.and_eq_true, Bool.or_eq_true, Bool.not_eq_true', decide_eq_true_eq, beq_iff_eq, bne_iff_ne, List.contains_iff_mem, ne_eq] at hinfo
    case aload_n k =>
      unfold aRLoad at h; split at h
      · rename_i v hv; exact g_aload_n C hd hv (ih _ _ _ _ h)
      · rename_i hv; exact g_aload_nN C hd hv (ih _ _ _ _ h)
      · cases h
    case aload k =>
      unfold aRLoad at h; split at h
      · rename_i v hv; exact g_aload C hd hv (ih _ _ _ _ h)
      · rename_i hv; exact g_aloadN C hd hv (ih _ _ _ _ h)
      · cases h
    case iload_n k =>
      unfold aILoad at h; split at h
      · rename_i v hv; exact g_iload_n C hd hv (ih _ _ _ _ h)
      · cases h
    case iload k =>
      unfold aILoad at h; split at h
      · rename_i v hv; exact g_iload C hd hv (ih _ _ _ _ h)
      · cases h
    case lload_n k =>
      unfold aLLoad at h; split at h
      · rename_i v hv; exact g_lload_n C hd hv (ih _ _ _ _ h)
      · cases h
    case istore_n k =>
      unfold aIStore at h; split at h
      · split at h
        · rename_i hv; exact g_istore_n C hd hv (ih _ _ _ _ h)
        · cases h
      · cases h
    case istore k =>
      unfold aIStore at h; split at h
      · split at h
        · rename_i hv; exact g_istore C hd hv (ih _ _ _ _ h)
        · cases h
      · cases h
    case astore_n k =>
      unfold aRStore at h; split at h
      · split at h
        · rename_i hv; exact g_astore_n C hd hv (ih _ _ _ _ h)
        · cases h
      · split at h
        · rename_i hv; exact g_astore_nN C hd hv (ih _ _ _ _ h)
        · cases h
      · cases h
    case astore k =>
      unfold aRStore at h; split at h
      · split at h
        · rename_i hv; exact g_astore C hd hv (ih _ _ _ _ h)
        · cases h
      · split at h
        · rename_i hv; exact g_astoreN C hd hv (ih _ _ _ _ h)
        · cases h
      · cases h
    case aconst_null => exact g_null C hd (ih _ _ _ _ h)
    case iconst k => exact g_iconst C hd hinfo (ih _ _ _ _ h)
    case bipush k => exact g_bipush C hd hinfo (ih _ _ _ _ h)
    case sipush k => exact g_sipush C hd hinfo (ih _ _ _ _ h)
    case ldc j =>
      by_cases hy : y = 0
      · rw [if_pos hy] at h
        rw [if_pos hy] at hinfo
        exact g_ldc C hd (by simpa using hinfo) (ih _ _ _ _ h)
      · rw [if_neg hy] at h
        rw [if_neg hy] at hinfo
        exact g_ldcS C hd (by simpa using hinfo) (ih _ _ _ _ h)
    case ldc_w j => exact g_ldcw C hd hinfo (ih _ _ _ _ h)
    case ldc2_w j => exact g_ldc2 C hd hinfo (ih _ _ _ _ h)
    case getfield j =>
      by_cases hx : x = 50
      · rw [if_pos hx] at h
        rw [if_pos hx] at hinfo
        unfold aGetS at h; split at h
        · rcases aIte_i h with ⟨ha, h⟩ | ⟨_, h⟩
          · refine g_getS C hd (by simpa using hinfo) ha ?_
            rcases aIte_i h with ⟨hy, h⟩ | ⟨hy, h⟩
            · exact Or.inl ⟨hy, ih _ _ _ _ h⟩
            · exact Or.inr ⟨hy, ih _ _ _ _ h⟩
          · cases h
        · cases h
      · rw [if_neg hx] at h
        rw [if_neg hx] at hinfo
        simp only [Bool.and_eq_true, decide_eq_true_eq, List.contains_iff_mem] at hinfo
        obtain ⟨h1, h2, h3⟩ := hinfo
        unfold aGet at h; split at h
        · rcases aIte_i h with ⟨ha, h⟩ | ⟨_, h⟩
          · split at h
            · rename_i hk; exact g_get C hd h1 h2 h3 ha (by rw [if_neg (by omega)]; rfl) (ih _ _ _ _ h)
            · rename_i hk; exact g_get C hd h1 h2 h3 ha (by rw [if_neg (by omega)]; rfl) (ih _ _ _ _ h)
            · rename_i hk
              split at h
              · rename_i hb; exact g_get C hd h1 h2 h3 ha (by rw [if_pos hk, hb]; rfl) (ih _ _ _ _ h)
              · rename_i hb; exact g_get C hd h1 h2 h3 ha (by rw [if_pos hk, hb]; rfl) (ih _ _ _ _ h)
            · cases h
          · cases h
        · cases h
    case putfield j =>
      obtain ⟨⟨h1, h2, h3⟩, h4⟩ := hinfo
      unfold aPut at h; split at h
      · rcases aIte_i h with ⟨ha, h⟩ | ⟨_, h⟩
        · split at h
          · rename_i hk; exact g_putI C hd h1 h2 h3 h4 ha (Or.inl hk) (ih _ _ _ _ h)
          · rename_i hk
            rcases aIte_i h with ⟨hv, h⟩ | ⟨_, h⟩
            · exact g_putI C hd h1 h2 h3 h4 ha (Or.inr ⟨hk, hv⟩) (ih _ _ _ _ h)
            · cases h
          · cases h
        · cases h
      · rcases aIte_i h with ⟨ha, h⟩ | ⟨_, h⟩
        · split at h
          · rename_i hk
            rcases aIte_i h with ⟨hv, h⟩ | ⟨_, h⟩
            · exact g_putR C hd h1 h2 h3 h4 ha hk hv (ih _ _ _ _ h)
            · cases h
          · cases h
        · cases h
      · cases h
    case getstatic j =>
      by_cases hx : x = 1
      · rw [if_pos hx] at h
        rw [if_pos hx] at hinfo
        exact g_getsI C hd (by simpa using hinfo) (ih _ _ _ _ h)
      · rw [if_neg hx] at h
        rw [if_neg hx] at hinfo
        simp only [Bool.and_eq_true, Bool.or_eq_true, decide_eq_true_eq, List.contains_iff_mem] at hinfo
        exact g_gets C hd hinfo.1 hinfo.2 (ih _ _ _ _ h)
    case iadd => obtain ⟨x1, y1, st', rfl, h2⟩ := aBin_i h; exact g_bin (f := fun x y => x + y) C hd (ih _ _ _ _ h2) (by simp)
    case isub => obtain ⟨x1, y1, st', rfl, h2⟩ := aBin_i h; exact g_bin (f := fun x y => x - y) C hd (ih _ _ _ _ h2) (by simp)
    case imul => obtain ⟨x1, y1, st', rfl, h2⟩ := aBin_i h; exact g_bin (f := fun x y => x * y) C hd (ih _ _ _ _ h2) (by simp)
    case iand => obtain ⟨x1, y1, st', rfl, h2⟩ := aBin_i h; exact g_bin (f := fun x y => x &&& y) C hd (ih _ _ _ _ h2) (by simp)
    case ior => obtain ⟨x1, y1, st', rfl, h2⟩ := aBin_i h; exact g_bin (f := fun x y => x ||| y) C hd (ih _ _ _ _ h2) (by simp)
    case ixor => obtain ⟨x1, y1, st', rfl, h2⟩ := aBin_i h; exact g_bin (f := fun x y => x ^^^ y) C hd (ih _ _ _ _ h2) (by simp)
    case ishl => obtain ⟨x1, y1, st', rfl, h2⟩ := aBin_i h; exact g_bin (f := fun x y => x <<< (y &&& 31)) C hd (ih _ _ _ _ h2) (by simp)
    case ishr => obtain ⟨x1, y1, st', rfl, h2⟩ := aBin_i h; exact g_bin (f := fun x y => x >>> (y &&& 31)) C hd (ih _ _ _ _ h2) (by simp)
    case iushr => obtain ⟨x1, y1, st', rfl, h2⟩ := aBin_i h; exact g_bin (f := fun x y => (x.toUInt32 >>> (y.toUInt32 &&& Int32.toUInt32 31)).toInt32) C hd (ih _ _ _ _ h2) (by simp)
    case ineg => obtain ⟨x1, st', rfl, h2⟩ := aUn_i h; exact g_un (f := fun x => -x) C hd (ih _ _ _ _ h2) (by simp)
    case i2b => obtain ⟨x1, st', rfl, h2⟩ := aUn_i h; exact g_un (f := fun x => x.toInt8.toInt32) C hd (ih _ _ _ _ h2) (by simp)
    case i2s => obtain ⟨x1, st', rfl, h2⟩ := aUn_i h; exact g_un (f := fun x => x.toInt16.toInt32) C hd (ih _ _ _ _ h2) (by simp)
    case i2c => obtain ⟨x1, st', rfl, h2⟩ := aUn_i h; exact g_un (f := fun x => (x.toUInt32 % 65536).toInt32) C hd (ih _ _ _ _ h2) (by simp)
    case land => obtain ⟨x1, y1, st', rfl, h2⟩ := aBinL_i h; exact g_long C hd (ih _ _ _ _ h2) (Or.inl ⟨x1, y1, rfl, rfl, rfl, rfl⟩)
    case lor => obtain ⟨x1, y1, st', rfl, h2⟩ := aBinL_i h; exact g_long C hd (ih _ _ _ _ h2) (Or.inr (Or.inl ⟨x1, y1, rfl, rfl, rfl, rfl⟩))
    case lshl => obtain ⟨x1, y1, st', rfl, h2⟩ := aShL_i h; exact g_long C hd (ih _ _ _ _ h2) (Or.inr (Or.inr (Or.inl ⟨x1, y1, rfl, rfl, rfl, rfl⟩)))
    case lshr => obtain ⟨x1, y1, st', rfl, h2⟩ := aShL_i h; exact g_long C hd (ih _ _ _ _ h2) (Or.inr (Or.inr (Or.inr (Or.inl ⟨x1, y1, rfl, rfl, rfl, rfl⟩))))
    case lushr => obtain ⟨x1, y1, st', rfl, h2⟩ := aShL_i h; exact g_long C hd (ih _ _ _ _ h2) (Or.inr (Or.inr (Or.inr (Or.inr ⟨x1, y1, rfl, rfl, rfl, rfl⟩))))
    case i2l =>
      unfold aI2l at h; split at h
      · exact g_i2l C hd (ih _ _ _ _ h)
      · cases h
    case l2i =>
      unfold aL2i at h; split at h
      · exact g_l2i C hd (ih _ _ _ _ h)
      · cases h
    case idiv =>
      unfold aDiv at h; split at h
      · rcases aIte_i h with ⟨_, h⟩ | ⟨hy, h⟩
        · cases h
        · exact g_idiv C hd hy (ih _ _ _ _ h)
      · cases h
    case irem =>
      unfold aRem at h; split at h
      · rcases aIte_i h with ⟨_, h⟩ | ⟨hy, h⟩
        · cases h
        · exact g_irem C hd hy (ih _ _ _ _ h)
      · cases h
    case ifCond cd f =>
      unfold aIf at h; split at h
      · refine g_if C hd hinfo ?_
        cases cd <;> dsimp only at h ⊢ <;> rcases aIte_i h with ⟨hc, h⟩ | ⟨hc, h⟩
        all_goals first
          | exact Or.inl ⟨hc, ih _ _ _ _ h⟩
          | exact Or.inr ⟨hc, ih _ _ _ _ h⟩
          | exact Or.inr ⟨fun z => z hc, ih _ _ _ _ h⟩
      · cases h
    case if_icmp cd f =>
      unfold aIc at h; split at h
      · refine g_ic C hd hinfo ?_
        cases cd <;> dsimp only at h ⊢ <;> rcases aIte_i h with ⟨hc, h⟩ | ⟨hc, h⟩
        all_goals first
          | exact Or.inl ⟨hc, ih _ _ _ _ h⟩
          | exact Or.inr ⟨hc, ih _ _ _ _ h⟩
          | exact Or.inr ⟨fun z => z hc, ih _ _ _ _ h⟩
      · cases h
    case ifnull f =>
      unfold aNul at h; split at h
      · exact g_ifnullN C hd hinfo (ih _ _ _ _ h)
      · exact g_ifnull C hd (ih _ _ _ _ h)
      · cases h
    case ifnonnull f =>
      unfold aNul at h; split at h
      · exact g_ifnnN C hd (ih _ _ _ _ h)
      · exact g_ifnn C hd hinfo (ih _ _ _ _ h)
      · cases h
    case goto f => exact g_goto C hd hinfo (ih _ _ _ _ h)
    case tableswitch dd lo hi offs =>
      obtain ⟨⟨⟨h1, h2⟩, h3⟩, h4⟩ := hinfo
      unfold aSwS at h; split at h
      · refine g_table C hd h1 h3 (fun e he => by simpa using List.all_eq_true.mp h4 e he) ?_
        rcases aSw_inv sw h with ⟨j, t, g1, _, g3⟩ | ⟨g1, g2⟩
        · exact Or.inl ⟨j, t, g1, ih _ _ _ _ g3⟩
        · exact Or.inr ⟨g1, ih _ _ _ _ g2⟩
      · cases h
    case lookupswitch dd ps =>
      obtain ⟨⟨h1, h2⟩, h3⟩ := hinfo
      unfold aSwS at h; split at h
      · refine g_lookup C hd h1 h2 h3 ?_
        rcases aSw_inv sw h with ⟨j, t, g1, g2, g3⟩ | ⟨g1, g2⟩
        · exact Or.inl ⟨j, t, g1, g2, ih _ _ _ _ g3⟩
        · exact Or.inr ⟨g1, ih _ _ _ _ g2⟩
      · cases h
    case iinc k m =>
      unfold aInc at h; split at h
      · rename_i v hv
        split at h
        · rename_i hp; exact g_iinc C hd hinfo hv hp (ih _ _ _ _ h)
        · cases h
      · cases h
    case dup =>
      unfold aDup at h; split at h
      · rcases aIte_i h with ⟨hc, h⟩ | ⟨_, h⟩
        · exact g_dup C hd hc (ih _ _ _ _ h)
        · cases h
      · cases h
    case dup2 =>
      unfold aDup2 at h; split at h
      · rcases aIte_i h with ⟨hc, h⟩ | ⟨_, h⟩
        · exact g_dup2 C hd hc.1 hc.2 (ih _ _ _ _ h)
        · cases h
      · cases h
    case pop =>
      unfold aPop1 at h; split at h
      · rcases aIte_i h with ⟨hc, h⟩ | ⟨_, h⟩
        · exact g_pop C hd hc (ih _ _ _ _ h)
        · cases h
      · cases h
    case newarray t =>
      unfold aNewA at h; split at h
      · rcases aIte_i h with ⟨_, h⟩ | ⟨hc, h⟩
        · cases h
        · exact g_newa C hd hinfo hc (ih _ _ _ _ h)
      · cases h
    case anewarray j =>
      unfold aNewA at h; split at h
      · rcases aIte_i h with ⟨_, h⟩ | ⟨hc, h⟩
        · cases h
        · exact g_newq C hd hinfo.2 hinfo.1 hc (ih _ _ _ _ h)
      · cases h
    case new j =>
      rcases aIte_i h with ⟨_, h⟩ | ⟨hc, h⟩
      · cases h
      · exact g_new C hd hinfo.1 hinfo.2 (by omega) (ih _ _ _ _ h)
    case iaload =>
      unfold aIald at h; split at h
      · split at h
        · rename_i q hq
          rcases aIte_i h with ⟨hk, h⟩ | ⟨_, h⟩
          · rcases aIte_i h with ⟨_, h⟩ | ⟨hi, h⟩
            · cases h
            · exact g_iald C hd (by rw [hq, ← hk]) hi (ih _ _ _ _ h)
          · cases h
        · split at h
          · rename_i q hq
            rcases aIte_i h with ⟨_, h⟩ | ⟨hi, h⟩
            · cases h
            · exact g_stald C hd hq hi (ih _ _ _ _ h)
          · cases h
      · cases h
    case baload =>
      unfold aBald at h; split at h
      · split at h
        · rename_i q hq
          rcases aIte_i h with ⟨hk, h⟩ | ⟨_, h⟩
          · rcases aIte_i h with ⟨_, h⟩ | ⟨hi, h⟩
            · cases h
            · exact g_bald C hd (by rw [hq, ← hk]) hi (ih _ _ _ _ h)
          · cases h
        · rcases aIte_i h with ⟨hk, h⟩ | ⟨_, h⟩
          · rcases aIte_i h with ⟨_, h⟩ | ⟨hi, h⟩
            · cases h
            · exact g_tbald C hd hk hi (ih _ _ _ _ h)
          · cases h
      · cases h
    case aaload =>
      unfold aAald at h; split at h
      · split at h
        · rename_i q hq
          rcases aIte_i h with ⟨hk, h⟩ | ⟨_, h⟩
          · rcases aIte_i h with ⟨_, h⟩ | ⟨hi, h⟩
            · cases h
            · split at h
              · rename_i hb; exact g_aald C hd hq hk hi (by rw [hb]; rfl) (ih _ _ _ _ h)
              · rename_i hb; exact g_aald C hd hq hk hi (by rw [hb]; rfl) (ih _ _ _ _ h)
          · cases h
        · cases h
      · cases h
    case iastore =>
      unfold aIast at h; split at h
      · split at h
        · rename_i q hq
          rcases aIte_i h with ⟨hk, h⟩ | ⟨_, h⟩
          · rcases aIte_i h with ⟨_, h⟩ | ⟨hi, h⟩
            · cases h
            · exact g_iast C hd (by rw [hq, ← hk]) hi (ih _ _ _ _ h)
          · cases h
        · cases h
      · cases h
    case bastore =>
      unfold aBast at h; split at h
      · split at h
        · rename_i q hq
          rcases aIte_i h with ⟨hk, h⟩ | ⟨_, h⟩
          · rcases aIte_i h with ⟨_, h⟩ | ⟨hi, h⟩
            · cases h
            · exact g_bast C hd (by rw [hq, ← hk]) hi (ih _ _ _ _ h)
          · cases h
        · cases h
      · cases h
    case aastore =>
      unfold aAast at h; split at h
      · split at h
        · rename_i q hq
          rcases aIte_i h with ⟨hk, h⟩ | ⟨_, h⟩
          · rcases aIte_i h with ⟨_, h⟩ | ⟨hi, h⟩
            · cases h
            · rcases aIte_i h with ⟨hx, h⟩ | ⟨_, h⟩
              · exact g_aast C hd hq hk hi hx.1 hx.2 (ih _ _ _ _ h)
              · cases h
          · cases h
        · cases h
      · cases h
    case arraylength =>
      unfold aAlen at h; split at h
      · split at h
        · rename_i q hq
          rcases aIte_i h with ⟨hk, h⟩ | ⟨_, h⟩
          · exact g_alen C hd hq hk (ih _ _ _ _ h)
          · cases h
        · split at h
          · rename_i q hq; exact g_slen C hd hq (ih _ _ _ _ h)
          · rcases aIte_i h with ⟨hk, h⟩ | ⟨_, h⟩
            · exact g_tblen C hd hk (ih _ _ _ _ h)
            · cases h
      · cases h
    case ireturn =>
      unfold aIret at h; split at h
      · rename_i v
        rcases aIte_i h with ⟨hr, h⟩ | ⟨_, h⟩
        · rcases aIte_i h with ⟨hv, h⟩ | ⟨_, h⟩
          · cases h; exact ⟨List.prefix_rfl, fun Hp locs cells slots lsA Rl => K _ _ _ _ _ _ _ Rl (Or.inl ⟨v, rfl, hd, Or.inr ⟨hr, hv⟩⟩)⟩
          · cases h
        · rcases aIte_i h with ⟨hr, h⟩ | ⟨_, h⟩
          · cases h; exact ⟨List.prefix_rfl, fun Hp locs cells slots lsA Rl => K _ _ _ _ _ _ _ Rl (Or.inl ⟨v, rfl, hd, Or.inl hr⟩)⟩
          · cases h
      · cases h
    case areturn =>
      unfold aAret at h; split at h
      · rcases aIte_i h with ⟨hr, h⟩ | ⟨_, h⟩
        · cases h; exact ⟨List.prefix_rfl, fun Hp locs cells slots lsA Rl => K _ _ _ _ _ _ _ Rl (Or.inr (Or.inl ⟨_, rfl, Or.inr ⟨_, rfl⟩, hd, hr⟩))⟩
        · cases h
      · rcases aIte_i h with ⟨hr, h⟩ | ⟨_, h⟩
        · cases h; exact ⟨List.prefix_rfl, fun Hp locs cells slots lsA Rl => K _ _ _ _ _ _ _ Rl (Or.inr (Or.inl ⟨_, rfl, Or.inl rfl, hd, hr⟩))⟩
        · cases h
      · cases h
    case return_ =>
      unfold aVret at h; split at h
      · rcases aIte_i h with ⟨hr, h⟩ | ⟨_, h⟩
        · cases h; exact ⟨List.prefix_rfl, fun Hp locs cells slots lsA Rl => K _ _ _ _ _ _ _ Rl (Or.inr (Or.inr ⟨rfl, hd, hr⟩))⟩
        · cases h
      · cases h
    case invokevirtual j =>
      rcases aIte_i h with ⟨_, h⟩ | ⟨_, h⟩
      · unfold aCallV at h; split at h
        · rename_i b hb
          rcases aIte_i h with ⟨hrec, h⟩ | ⟨_, h⟩
          · obtain ⟨hy, r1, H1, h1, h2⟩ := aCallI_i h
            exact g_callV C ok hd hinfo.1 hinfo.2 hb hrec hy h1 (ih _ _ _ _ h2)
          · cases h
        · cases h
      · cases h
    case invokestatic j =>
      rcases aIte_i h with ⟨hx, hm⟩ | ⟨hx0, h⟩
      · subst hx
        rw [if_pos (Or.inl rfl)] at hinfo
        obtain ⟨x1, y1, st', rfl, hc, h2⟩ := aMax_i hm
        have G := ih _ _ _ _ h2
        exact g_mm C hd (by simpa using hinfo) hc G.1 (Or.inl ⟨rfl, G⟩)
      · rcases aIte_i h with ⟨hx, hm⟩ | ⟨hx1, h⟩
        · subst hx
          rw [if_pos (Or.inr (Or.inl rfl))] at hinfo
          obtain ⟨x1, y1, st', rfl, hc, h2⟩ := aMin_i hm
          have G := ih _ _ _ _ h2
          exact g_mm C hd (by simpa using hinfo) hc G.1 (Or.inr ⟨rfl, G⟩)
        · rcases aIte_i h with ⟨hx, hm⟩ | ⟨hx2, h⟩
          · subst hx
            rw [if_pos (Or.inr (Or.inr rfl))] at hinfo
            obtain ⟨n1, dp, b1, sp, a1, st', q, r1, rfl, hq, hq', ⟨c1, c0, c2, c3, c4, c5, c6, c7, c8⟩, h2⟩ := aCopy_i hm
            exact g_copy C hd (by simpa using hinfo) hq (by rw [hq', ← c2]) c1 c0 c3 c4 c5 c6 c7 c8 (ih _ _ _ _ h2)
          · rcases aIte_i h with ⟨hx3, h⟩ | ⟨_, h⟩
            · rw [if_neg (by omega), if_neg (by omega)] at hinfo
              simp only [Bool.and_eq_true, Bool.or_eq_true, decide_eq_true_eq, List.contains_iff_mem] at hinfo
              obtain ⟨hy, r1, H1, h1, h2⟩ := aCallI_i h
              exact g_callS C ok hd hinfo.1 hinfo.2 hy h1 (ih _ _ _ _ h2)
            · cases h
    case invokespecial j =>
      rcases aIte_i h with ⟨hx, hm⟩ | ⟨hx, h⟩
      · rw [if_pos hx] at hinfo
        subst hx
        obtain ⟨a1, st', rfl, hc, h2⟩ := aPop_i hm
        exact g_objInit C hd (by simpa using hinfo) hc (ih _ _ _ _ h2)
      · rw [if_neg hx] at hinfo
        simp only [Bool.and_eq_true, Bool.or_eq_true, decide_eq_true_eq, List.contains_iff_mem] at hinfo
        rcases aIte_i h with ⟨_, h⟩ | ⟨_, h⟩
        · unfold aCallC at h; split at h
          · rename_i b hb
            obtain ⟨hy, r1, H1, h1, h2⟩ := aCallI_i h
            exact g_callC C ok hd hinfo.1 hinfo.2 hb hy h1 (ih _ _ _ _ h2)
          · cases h
        · cases h
end SND
end
section
/-! every call that the interpreter ends, the machine ends so -/
theorem aSw_p {dd : Nat} {x : Int32} {k : Nat → aRs} {z : Option Value × aH} : ∀ (sw : List (Int32 × Nat)), aSw sw dd x k = some z → ∃ t, k t = some z
  | [], h => ⟨_, h⟩
  | (c, t) :: l, h => by
    rw [aSw] at h
    by_cases hc : x = c
    · rw [if_pos hc] at h; exact ⟨_, h⟩
    · rw [if_neg hc] at h; exact aSw_p l h
set_option maxHeartbeats 8000000 in
/-- no cell goes away -/
theorem aStep_p {cl : Nat → List Value → aH → aRs} {scr : aSc} {rt : Nat} {k : Nat → aLs → List Value → aH → aRs} {r : Option Value} {H' : aH} (K : ∀ p ls st H, k p ls st H = some (r, H') → H.1 <+: H'.1) (Kc : ∀ x vs H r1 H1, cl x vs H = some (r1, H1) → H.1 <+: H1.1) {q : aCI} {ls : aLs} {st : List Value} {H : aH}
    (h : aStep cl scr rt k q ls st H = some (r, H')) : H.1 <+: H'.1 := by
  have Kn : ∀ p ls st kd n, k p ls st (aNew kd n H) = some (r, H') → H.1 <+: H'.1 := fun p ls st kd n h => List.IsPrefix.trans ⟨[(kd, n)], rfl⟩ (K _ _ _ _ h)
  have Kr : ∀ p ls x vs st', aRet (fun st H => k p ls st H) (cl x vs H) st' = some (r, H') → H.1 <+: H'.1 := fun p ls x vs st' h => by
    unfold aRet at h
    split at h
    · rename_i v H1 heq; exact (Kc _ _ _ _ _ heq).trans (K _ _ _ _ h)
    · rename_i H1 heq; exact (Kc _ _ _ _ _ heq).trans (K _ _ _ _ h)
    · cases h
  obtain ⟨pc, len, i, x, y, c, sw⟩ := q
  cases i <;> simp only [aStep, aRLoad, aILoad, aLLoad, aIStore, aRStore, aBin, aBinL, aShL, aUn, aIf, aIc, aGet, aGetS, aPut, aIald, aBald, aAald, aIast, aBast, aAast, aAlen, aNewA, aCopy, aCallV, aCallC, aCallI, aMax, aMin, aPop, aDiv, aRem, aI2l, aL2i, aNul, aInc, aDup, aDup2, aPop1, aIret, aAret, aVret] at h
  all_goals first
    | (cases h; done)
    | exact K _ _ _ _ h
    | skip
  all_goals (repeat' split at h)
  all_goals first
    | (cases h; done)
    | exact K _ _ _ _ h
    | (have hk := K _ _ _ _ h; exact hk)
    | exact Kn _ _ _ _ _ h
    | exact Kr _ _ _ _ _ h
    | (cases h; exact List.prefix_rfl)
    | (unfold aSwS at h; split at h <;> first | (cases h; done) | (obtain ⟨t, ht⟩ := aSw_p _ h; exact K _ _ _ _ ht))
theorem aRun_p {cl : Nat → List Value → aH → aRs} {scr : aSc} {cd : aCd} {rt : Nat} {r : Option Value} {H' : aH} (Kc : ∀ x vs H r1 H1, cl x vs H = some (r1, H1) → H.1 <+: H1.1) : ∀ (n : Nat) {pc : Nat} {ls : aLs} {st : List Value} {H : aH}, aRun cl scr cd rt n pc ls st H = some (r, H') → H.1 <+: H'.1
  | 0, _, _, _, _, h => by cases h
  | n + 1, pc, ls, st, H, h => by
    rw [aRun] at h
    split at h
    · exact aStep_p (fun p ls st H h => aRun_p Kc n h) Kc h
    · cases h
theorem aArgs_len (ad : Nat → Nat) : ∀ (vs : List Value), (lg_sl (vs.map (aVal ad))).length = (aArgs vs).length
  | [] => rfl
  | v :: vs => by
    have ih := aArgs_len ad vs
    have e : lg_sl ((v :: vs).map (aVal ad)) = (if (aVal ad v).category = 2 then [.val (aVal ad v), .second] else [.val (aVal ad v)]) ++ lg_sl (vs.map (aVal ad)) := by simp [lg_sl]
    rw [e, List.length_append, ih, aVal_cat, aArgs]
    by_cases h : v.category = 2
    · rw [if_pos h, if_pos h]; simp; omega
    · rw [if_neg h, if_neg h]; simp; omega
theorem aArgs_at (ad : Nat → Nat) : ∀ (vs : List Value) (k j : Nat) (v : Value), (aArgs vs)[j]? = some (some v) → (k + j, aVal ad v) ∈ lv_args k (vs.map (aVal ad))
  | [], k, j, v, h => by simp [aArgs] at h
  | w :: vs, k, j, v, h => by
    rw [List.map_cons, lv_args]
    rw [aArgs] at h
    by_cases hc : w.category = 2
    · rw [if_pos hc] at h
      rw [if_pos (by rw [aVal_cat]; exact hc)]
      cases j with
      | zero => cases h; exact List.mem_cons_self
      | succ j =>
        cases j with
        | zero => cases h
        | succ j =>
          have := aArgs_at ad vs (k + 2) j v h
          rw [show k + (j + 1 + 1) = k + 2 + j by omega]
          exact List.mem_cons_of_mem _ this
    · rw [if_neg hc] at h
      rw [if_neg (by rw [aVal_cat]; exact hc)]
      cases j with
      | zero => cases h; exact List.mem_cons_self
      | succ j =>
        have := aArgs_at ad vs (k + 1) j v h
        rw [show k + (j + 1) = k + 1 + j by omega]
        exact List.mem_cons_of_mem _ this
theorem aInit_lv (ad : Nat → Nat) (vs : List Value) (n : Nat) : ∀ q ∈ aLv ad (aInit vs n), q ∈ lv_args 0 (vs.map (aVal ad)) := by
  intro q hq
  obtain ⟨v, h1, h2⟩ := aLv_mem.mp hq
  obtain ⟨i, w⟩ := q
  dsimp only at h1 h2
  subst h2
  unfold aInit at h1
  by_cases hi : i < (aArgs vs).length
  · rw [List.getElem?_append_left hi] at h1
    have := aArgs_at ad vs 0 i v h1
    rw [Nat.zero_add] at this
    exact this
  · rw [List.getElem?_append_right (by omega), List.getElem?_replicate] at h1
    split at h1 <;> cases h1
theorem aInit_len {vs : List Value} {n : Nat} (h : (aArgs vs).length ≤ n) : (aInit vs n).length = n := by
  unfold aInit; rw [List.length_append, List.length_replicate]; omega
/-- the state of a walk at a method's entry -/
theorem aEntry {X : aX} {vs : List Value} {H : aH} {Hp : Heap} {lsA : Array Slot} (h : aWo (xC X) (xI X) (xB X) (xE X) H (xs X)) (hH : Hp = (xs X).heap) (hl : lv_has lsA (xN X) (lv_args 0 (vs.map (aVal (xd X))))) (hn : (aArgs vs).length ≤ xN X) (hz : xz X = aSz H) : aRel X H (aInit vs (xN X)) Hp [] 0 0 lsA := by
  subst hH
  exact ⟨h.2.1, h.2.2.1, va_S.rf, aLv_sub hl (aInit_lv _ vs _), aInit_len hn, h.1, hz, h.2.2.2⟩
set_option maxHeartbeats 4000000 in
theorem aMeets {d : Nat} {cl : Nat → List Value → aH → aRs} (ok : aOK cl d) {x : Nat} {q : aMeth} (hq : aMt[x]? = some q) {vs : List Value} {H H1 : aH} {r : Option Value} {n : Nat} (hv : vs.length = q.2.2.2.2.2.1) (ha : (aArgs vs).length ≤ q.2.2.1) (hr : aRun cl none q.2.2.2.2.2.2.2 (aRt q.2.2.2.1) n 0 (aInit vs q.2.2.1) [] H = some (r, H1))
    (l : Launch) (C : Nat → ClassId) (S : Nat → Nat → Nat) (base : Nat) (pre : Nat → Nat) (hlen : H1.1.length ≤ 1000) : H.1 <+: H1.1 ∧ Met l q.1 (aWords q) { frames := d + 1, cells := H1.1.length - H.1.length, slots := aSz H1 - aSz H, locals := 32 * (d + 1) } (aPc C S base pre vs H) (aQc C S base pre r H1) (H1.1.length - H.1.length) (aSz H1 - aSz H) (aA base) := by
  obtain ⟨⟨m1, m2, m3, m4⟩, m5, m6, m7, m8, m9⟩ := aMt_at hq
  obtain ⟨oc, hoc⟩ := aOc_of hq
  obtain ⟨i1, i2⟩ := aIniM hq hoc
  have hmem := List.mem_of_getElem? hq
  have hcd := aCd_ok (q, oc) (List.mem_of_getElem? (i := x) (by rw [List.getElem?_zip_eq_some]; exact ⟨hq, hoc⟩))
  dsimp only at hcd
  have key : ∀ (p : Program) (e : Env) (s : State) (m : MethodId) (args : Array Value) (below : List Frame) (meth : Method) (c : Code) (s₁ : State), BodyLoose p l q.1 (headSpec (aWords q) { frames := d + 1, cells := H1.1.length - H.1.length, slots := aSz H1 - aSz H, locals := 32 * (d + 1) }) q.2.1 q.2.2.1 q.2.2.2.1 e s m args below meth c s₁ → c.maxLocals = q.2.2.1 → aPc C S base pre vs H args s →
      aGd (p, l, e, { frames := d + 1, cells := H1.1.length - H.1.length, slots := aSz H1 - aSz H, locals := 32 * (d + 1) }, s, m, args, below, meth, c, MQ below (aQc C S base pre r H1) args s (H1.1.length - H.1.length) (aSz H1 - aSz H) (aA base), C, S, base, pre, none, q.2.2.1, aSz H) H1 0 (aInit vs q.2.2.1) [] H := by
    intro p e s m args below meth c s₁ B hml hv
    have hts := atoms_spec (ws := aWords q) B.pre
    have hC : aCx (p, l, e, { frames := d + 1, cells := H1.1.length - H.1.length, slots := aSz H1 - aSz H, locals := 32 * (d + 1) }, s, m, args, below, meth, c, MQ below (aQc C S base pre r H1) args s (H1.1.length - H.1.length) (aSz H1 - aSz H) (aA base), C, S, base, pre, none, q.2.2.1, aSz H) q.2.1 oc d (q.2.2.2.2.2.2.1 == 2) H1 := by
      refine ⟨B.exec, B.bytes, hml, ?_, fun w hw => hts w (List.mem_cons_of_mem _ hw), hv.2.2.1, hv.2.2.2, ?_, ?_, ?_, ?_, fun hi => ?_, hlen⟩
      · rw [← i1]; exact findClass_of_methodNamed B.named
      · show base ≤ s.heap.size
        rw [hv.2.1.1]; omega
      · show d + 1 ≤ d + 1 ∧ 32 * d + 32 ≤ 32 * (d + 1)
        omega
      · show base + H1.1.length ≤ s.heap.size + (H1.1.length - H.1.length) ∧ aSz H1 ≤ aSz H + (aSz H1 - aSz H)
        rw [hv.2.1.1]; omega
      · intro q hq; cases hq
      · rw [(name_of_methodNamed B.named B.method).1]
        exact (m6 (by simpa using hi)).1
    refine aSound (rt := aRt q.2.2.2.1) (r := r) hC ok hcd ?_ n 0 _ [] H hr
    intro Hp locs cells slots lsA pc ls Rl hfin
    refine aW.size fun hsz => ?_
    have hs := Rl.size hC.2.2.2.2.2.2.2.1 hlen hsz
    have c1 : s.heap.size + cells = base + H1.1.length := Rl.2.2.2.2.2.1
    have c2 : aSz H + slots = aSz H1 := Rl.2.2.2.2.2.2.1
    have hsz0 : s.heap.size = base + H.1.length := hv.2.1.1
    have e1 : cells = H1.1.length - H.1.length := by omega
    have e2 : slots = aSz H1 - aSz H := by omega
    subst e1; subst e2
    have hQ : ∀ t : State, t.heap = Hp → s.WarmedH t.vm → aQc C S base pre r H1 args s (.returned (r.map (aVal (aAd base pre)))) t := fun t ht hW => by
      have hA := hW.alike
      refine ⟨rfl, ⟨by rw [ht]; exact hs, ?_, fun i z hz => (Rl.2.1 i z hz).moved hA, Rl.2.2.2.2.2.2.2⟩, Rl.2.2.1.F ht⟩
      rw [aCA_moved hA, ht]; exact Rl.1
    have hlocks := B.notSynchronized
    rcases hfin with ⟨v, rfl, hd, hv2⟩ | ⟨v, rfl, hv2, hd, hrt⟩ | ⟨rfl, hd, hrt⟩
    · have hret : ∃ ty, meth.sig.returnType = some ty ∧ narrow ty (.int v) = .int v := by
        rw [B.returns]
        rcases hv2 with h0 | ⟨h1, hv2⟩
        · revert h0
          cases q.2.2.2.1 with
          | none => intro h0; cases h0
          | some t => cases t <;> intro h0 <;> first | exact ⟨_, rfl, rfl⟩ | cases h0
        · revert h1
          cases q.2.2.2.1 with
          | none => intro h0; cases h0
          | some t => cases t <;> intro h0 <;> first | (rcases hv2 with rfl | rfl <;> exact ⟨_, rfl, rfl⟩) | cases h0
      obtain ⟨ty, hty, hn⟩ := hret
      exact W.zret B.exec B.bytes hty hn hQ Rl.2.2.1.2.2 hd hlocks
    · have hret : ∃ ty, meth.sig.returnType = some ty ∧ ((∃ n, ty = .object n) ∨ ∃ t, ty = .array t) := by
        rw [B.returns]
        revert hrt
        cases q.2.2.2.1 with
        | none => intro h0; cases h0
        | some t => cases t <;> intro h0 <;> first | exact ⟨_, rfl, Or.inl ⟨_, rfl⟩⟩ | cases h0
      obtain ⟨ty, hty, hn⟩ := hret
      refine W.aret B.exec B.bytes hty hn ?_ hQ Rl.2.2.1.2.2 hd hlocks
      rcases hv2 with rfl | ⟨a, rfl⟩
      · exact Or.inl rfl
      · exact Or.inr ⟨_, rfl⟩
    · have hret : meth.sig.returnType = none := by
        rw [B.returns]
        revert hrt
        cases q.2.2.2.1 with
        | none => intro _; rfl
        | some t => cases t <;> intro h0 <;> cases h0
      exact W.vret B.exec B.bytes hret hQ Rl.2.2.1.2.2 hd hlocks
  refine ⟨aRun_p (fun x vs H r1 H1 h => (ok x vs H r1 H1 h).choose_spec.2.2.1) n hr, ?_⟩
  refine Met.ofW (cc := q.2.1) (maxL := q.2.2.1) (ret := q.2.2.2.1) m7 rfl ?_
  intro p e s m args below meth c s₁ B hml hv2
  have hG := key p e s m args below meth c s₁ B hml hv2
  have hv3 := hv2
  obtain ⟨rfl, hw⟩ := hv2
  have hle : (lg_sl (vs.map (aVal (aAd base pre)))).length ≤ q.2.2.1 := by rw [aArgs_len]; exact ha
  have hl := lv_entry (vs.map (aVal (aAd base pre))) hle
  rw [lg_entry_eq]
  exact hG.2 _ _ _ _ _ (aEntry hw.1 rfl hl ha rfl)
theorem aOK_all : ∀ d, aOK (aCall aMt d) d
  | 0 => fun x vs H r H1 h => by cases h
  | d + 1 => fun x vs H r H1 h => by
    rw [aCall] at h
    split at h
    · rename_i q hq
      by_cases hc : vs.length = q.2.2.2.2.2.1 ∧ (aArgs vs).length ≤ q.2.2.1 ∧ q.2.2.1 ≤ 13
      · rw [if_pos hc] at h
        obtain ⟨n, hn⟩ := aGo_run h
        have ok := aOK_all d
        exact ⟨q, hq, hc.1, aRun_p (fun x vs H r1 H1 h => (ok x vs H r1 H1 h).choose_spec.2.2.1) n hn, fun l C S base pre hlen => (aMeets ok hq hc.1 hc.2.1 hn l C S base pre hlen).2⟩
      · rw [if_neg hc] at h; cases h
    · cases h
end
section
/-! THE CLAIM OUT OF ONE WALK OF THE LAW'S BODY. Your part is whole_start (and what it stands on); all else here is the same for every law, but numbers. -/
def R_law : String := "ElevenYoghurtsLaw"
def lw_P (b : Addr) (xs : List Int32) (args : Array Value) (s : State) : Prop := args = #[.ref b] ∧ s.IntsAt b xs ∧ xs.length ≤ 3072 ∧ (Jvm.Cond.and given_1 narrow_1).before args s = true
def lw_Q (_ : Array Value) (s : State) (o : Outcome) (t : State) : Prop := o = .returned (some (.int 1)) ∧ Framed s o t [] 600000 7302250
def lw_Z (below : List Frame) (a : Array Value) (s : State) : State → Prop := fun t => ∃ o, t.status = .running ∧ Ended t below o ∧ lw_Q a s o t
/-- the law's own end, with 1 on the stack, nothing written that was there before, its room as the claim has it -/
theorem lw_ret {p : Program} {l : Launch} {e : Env} {s : State} {m : MethodId} {below : List Frame} {meth : Method} {c : Code} {b : Nat} (hx : p.tables.exec = Jvm.exec) (hb : c.code = code) (hr : meth.sig.returnType = ret) (hlocks : meth.locks = false) {pc : Nat} {H : Heap} {ls : Array Slot} (hdg : decode code pc = .ok (.ireturn, 1)) : W p l e room_1 s m #[Value.ref b] below meth c H [] 600000 7302250 (lw_Z below #[Value.ref b] s) (F0 m pc ls [.int 1]) := by
  intro T hT X
  obtain ⟨fs, hret, hrun, hended, hW, hframe⟩ := X.leave (v := some (.int 1)) (hlocks := hlocks) (fun h => by rw [hr] at h; cases h)
  have hmeth' : T.vm.method? m = some meth := X.method'
  refine ⟨T.setFrames fs, ?_, .returned (some (.int 1)), hrun, hended, rfl, ⟨_, rfl⟩, hW, hframe⟩
  jvm_step X.here [X.here.top, hx, hb, hdg, hmeth', hr, ret, narrow_b1]
  (try refine ⟨rfl, ?_⟩); (try refine ⟨rfl, ?_⟩)
  first | (intro acts; rw [hret _ acts rfl rfl rfl]) | rw [hret _ _ rfl rfl rfl]
  exact Steps.refl _
/-- what holds at the law's entry: the machine, the code, the tables' words (any of lw_tbl by 'hts w (by decide +kernel)'), the script of L ints xs at the cell b, what the Statement gives of the start (any of its parts by flat_of_before) -/
def lw_At (p : Program) (s : State) (m : MethodId) (meth : Method) (c : Code) (b L : Nat) (xs : Nat → Int32) : Prop :=
  p.tables.exec = Jvm.exec ∧ c.code = code ∧ meth.sig.returnType = ret ∧ c.maxLocals = 4 ∧ s.vm.findClass R_law = some m.cls ∧ (∀ w ∈ lw_tbl, w.before #[Value.ref b] s = true) ∧ va_X b L xs s s.heap ∧ b < s.heap.size ∧ meth.locks = false ∧ (Jvm.Cond.and given_1 narrow_1).before #[Value.ref b] s = true

/-! the law's own walk, by the interpreter -/
theorem aLawCd : cd_law.all (fun l => l.all (aChk 9 code false)) = true := by
  have e : cd_law = ((cd_law.drop 0).take 6) ++ (((cd_law.drop 6).take 6) ++ (((cd_law.drop 12).take 6) ++ (((cd_law.drop 18).take 6) ++ (((cd_law.drop 24).take 6) ++ (((cd_law.drop 30).take 6) ++ (((cd_law.drop 36).take 6) ++ (((cd_law.drop 42).take 6) ++ (((cd_law.drop 48).take 6) ++ (((cd_law.drop 54).take 6) ++ (((cd_law.drop 60).take 6) ++ (((cd_law.drop 66).take 6) ++ (((cd_law.drop 72).take 6) ++ (((cd_law.drop 78).take 6) ++ (((cd_law.drop 84).take 6) ++ (((cd_law.drop 90).take 6)))))))))))))))) := rfl
  rw [e]
  simp only [List.all_append, Bool.and_eq_true]
  exact ⟨kl_0, ⟨kl_6, ⟨kl_12, ⟨kl_18, ⟨kl_24, ⟨kl_30, ⟨kl_36, ⟨kl_42, ⟨kl_48, ⟨kl_54, ⟨kl_60, ⟨kl_66, ⟨kl_72, ⟨kl_78, ⟨kl_84, kl_90⟩⟩⟩⟩⟩⟩⟩⟩⟩⟩⟩⟩⟩⟩⟩
def aStS (i : Nat) : Term := .string "ElevenYoghurts$Reader" (if i = 0 then 24 else if i = 1 then 40 else 42)
theorem aStart {args : Array Value} {s : State} (hts : ∀ w ∈ lw_tbl, w.before args s = true) (hgv : (Jvm.Cond.and given_1 narrow_1).before args s = true) (b : Nat) : ∃ pre : Nat → Nat, pre 2999 = b ∧ aGl s.heap.size pre s := by
  have hs := flat_of_before _ hgv
  have hA : ∀ a : Nat, a < s.heap.size → ¬ aA s.heap.size a := fun a h => Nat.not_le.mpr h
  obtain ⟨t0, e0, h0⟩ := va_Tof (tm := .static "ElevenYoghurts" "KIND_ABOVE" "[I") (ty := .int) (N := 7) (f := fun j => .int (aKA.getD j 0)) (by decide) (hs _ (by decide +kernel)) (va_eqt (hs _ (by decide +kernel))) (fun j hj => va_eqt (hs _ ((by decide +kernel : ∀ j, j < 7 → Cond.eq (.elem (.static "ElevenYoghurts" "KIND_ABOVE" "[I") (.int (Int32.ofNat j))) (.int (aKA.getD j 0)) ∈ flatC (Jvm.Cond.and given_1 narrow_1)) j hj))) hA
  obtain ⟨t1, e1, h1⟩ := va_Tof (tm := .static "ElevenYoghurts" "MOST_MARK" "[I") (ty := .int) (N := 4) (f := fun j => .int (aMM.getD j 0)) (by decide) (hs _ (by decide +kernel)) (va_eqt (hs _ (by decide +kernel))) (fun j hj => va_eqt (hs _ ((by decide +kernel : ∀ j, j < 4 → Cond.eq (.elem (.static "ElevenYoghurts" "MOST_MARK" "[I") (.int (Int32.ofNat j))) (.int (aMM.getD j 0)) ∈ flatC (Jvm.Cond.and given_1 narrow_1)) j hj))) hA
  obtain ⟨t2, e2, h2⟩ := va_Tof (tm := .static "ElevenYoghurts$Voices" "BODIES" "[I") (ty := .int) (N := 28) (f := fun j => .int (aBO.getD j 0)) (by decide) (hs _ (by decide +kernel)) (va_eqt (hs _ (by decide +kernel))) (fun j hj => va_eqt (hs _ ((by decide +kernel : ∀ j, j < 28 → Cond.eq (.elem (.static "ElevenYoghurts$Voices" "BODIES" "[I") (.int (Int32.ofNat j))) (.int (aBO.getD j 0)) ∈ flatC (Jvm.Cond.and given_1 narrow_1)) j hj))) hA
  obtain ⟨adK, adV, hS, hK⟩ := vk_Sof (N := 3) (tm := aStS) (len := [0, 3, 3]) (byt := aTx) (A := aA s.heap.size) (by decide) (fun i hi => hs _ ((by decide +kernel : ∀ i, i < 3 → Cond.exactly (aStS i) "java/lang/String" ∈ flatC (Jvm.Cond.and given_1 narrow_1)) i hi)) (fun i hi => hs _ ((by decide +kernel : ∀ i, i < 3 → Cond.eq (.field (aStS i) "java/lang/String" "coder" "B") (.int 0) ∈ flatC (Jvm.Cond.and given_1 narrow_1)) i hi))
    (fun i hi => hs _ ((by decide +kernel : ∀ i, i < 3 → Cond.arrayOf (.field (aStS i) "java/lang/String" "value" "[B") .byte ∈ flatC (Jvm.Cond.and given_1 narrow_1)) i hi)) (fun i hi => hs _ ((by decide +kernel : ∀ i, i < 3 → Cond.eq (.length (.field (aStS i) "java/lang/String" "value" "[B")) (.int (Int32.ofNat (([0, 3, 3] : List Nat).getD i 0))) ∈ flatC (Jvm.Cond.and given_1 narrow_1)) i hi))
    (fun i hi j hj => hs _ ((by decide +kernel : ∀ i, i < 3 → ∀ j, j < ([0, 3, 3] : List Nat).getD i 0 → Cond.eq (.elem (.field (aStS i) "java/lang/String" "value" "[B") (.int (Int32.ofNat j))) (.int ((aTx.getD i []).getD j 0)) ∈ flatC (Jvm.Cond.and given_1 narrow_1)) i hi j hj))
    (fun i j hi hj hij => by
      have key : ∀ i, i < 3 → ∀ j, j < 3 → i ≠ j → Cond.not (Cond.eq (aStS i) (aStS j)) ∈ flatC (Jvm.Cond.and given_1 narrow_1) ∨ Cond.not (Cond.eq (aStS j) (aStS i)) ∈ flatC (Jvm.Cond.and given_1 narrow_1) := by decide +kernel
      exact (key i hi j hj hij).imp (hs _) (hs _)) hA
  refine ⟨fun i => if i = 2999 then b else if 2500 ≤ i then adV (i - 2500) else if 2000 ≤ i then adK (i - 2000) else if i = 1000 then t0 else if i = 1001 then t1 else t2, rfl, ?_, ?_, ?_, ?_, ?_, ?_, ?_⟩
  · intro a ha hb
    rcases (show a = 1000 ∨ a = 1001 ∨ a = 1002 by omega) with rfl | rfl | rfl
    · exact ⟨va_Zref (hts _ (by decide +kernel)) (hts _ (by decide +kernel)) e0 hA, fun q hq => by cases hq; exact h0⟩
    · exact ⟨va_Zref (hts _ (by decide +kernel)) (hts _ (by decide +kernel)) e1 hA, fun q hq => by cases hq; exact h1⟩
    · exact ⟨va_Zref (hts _ (by decide +kernel)) (hts _ (by decide +kernel)) e2 hA, fun q hq => by cases hq; exact h2⟩
  · intro e he
    have hh : ∀ e ∈ aSr, aO e.1 = "ElevenYoghurts$Reader" ∧ (e.2.2 = 2000 ∧ e.2.1 = 24 ∨ e.2.2 = 2001 ∧ e.2.1 = 40 ∨ e.2.2 = 2002 ∧ e.2.1 = 42) := by decide +kernel
    have h1 := hts _ (aSr_ok e he)
    obtain ⟨g1, g2⟩ := hh e he
    obtain ⟨o1, j1, x1⟩ := e
    dsimp only at g1 g2 h1 ⊢
    rw [g1] at h1 ⊢
    rcases g2 with ⟨rfl, rfl⟩ | ⟨rfl, rfl⟩ | ⟨rfl, rfl⟩
    · exact vk_R.of h1 (hK 0 (by omega))
    · exact vk_R.of h1 (hK 1 (by omega))
    · exact vk_R.of h1 (hK 2 (by omega))
  · exact va_Zof (hts _ (by decide +kernel)) (hts _ (by decide +kernel)) (va_eqi (hs _ (by decide +kernel))) hA
  · exact fun e he => va_Nw.of rfl (hts _ (aGn_ok e he))
  · exact fun e he => va_Nw.of rfl (hts _ (aIn_ok e he))
  · exact fun e he => va_AO.of (hts _ (aOver_ok e he))
  · dsimp only
    refine ⟨fun i hi => ?_, fun i j hi hj e => hS.2 i j hi hj ?_⟩
    · have h := hS.1 i hi
      have a1 : (if 2000 + i = 2999 then b else if 2500 ≤ 2000 + i then adV (2000 + i - 2500) else if 2000 ≤ 2000 + i then adK (2000 + i - 2000) else if 2000 + i = 1000 then t0 else if 2000 + i = 1001 then t1 else t2) = adK i := by
        rw [if_neg (by omega), if_neg (by omega), if_pos (by omega), Nat.add_sub_cancel_left]
      have a2 : (if 2500 + i = 2999 then b else if 2500 ≤ 2500 + i then adV (2500 + i - 2500) else if 2000 ≤ 2500 + i then adK (2500 + i - 2000) else if 2500 + i = 1000 then t0 else if 2500 + i = 1001 then t1 else t2) = adV i := by
        rw [if_neg (by omega), if_pos (by omega), Nat.add_sub_cancel_left]
      dsimp only; rw [a1, a2]; exact h
    · have a1 : ∀ i, i < 3 → (if 2000 + i = 2999 then b else if 2500 ≤ 2000 + i then adV (2000 + i - 2500) else if 2000 ≤ 2000 + i then adK (2000 + i - 2000) else if 2000 + i = 1000 then t0 else if 2000 + i = 1001 then t1 else t2) = adK i := fun i h => by
        rw [if_neg (by omega), if_neg (by omega), if_pos (by omega), Nat.add_sub_cancel_left]
      rw [← a1 i hi, ← a1 j hj]; exact e
/-- what is left: the interpreter's own run of the law -/
def aH0 : aH := ([], fun _ _ => 0, [])
def aGoal : Prop := ∀ (L : Nat) (xs : Nat → Int32), L ≤ 3072 → ∃ (n : Nat) (H' : aH), aRun (aCall aMt 400) (some (L, xs)) cd_law 1 n 0 (aInit [.ref 2999] 4) [] aH0 = some (some (.int 1), H') ∧ H'.1.length ≤ 1000 ∧ aSz H' ≤ 100000
set_option maxHeartbeats 4000000 in
theorem whole_of (hg : aGoal) {p : Program} {e : Env} {s : State} {m : MethodId} {below : List Frame} {meth : Method} {c : Code} (l : Launch) {b L : Nat} {xs : Nat → Int32} (hL : L ≤ 3072) (C0 : lw_At p s m meth c b L xs) : W p l e room_1 s m #[Value.ref b] below meth c s.heap [] 0 0 (lw_Z below #[Value.ref b] s) (entryFrame m ([Value.ref b] : List Value).toArray 4) := by
  obtain ⟨hx, hb, hr, hml, hown, hts, hX, hbl, hlocks, hgv⟩ := C0
  obtain ⟨pre, hpb, hG⟩ := aStart hts hgv b
  obtain ⟨n, H', hrun, hlen, hsz⟩ := hg L xs hL
  have hin : ∀ w ∈ aTB, w.before #[Value.ref b] s = true := fun w hw => hts w (aTB_tbl hw)
  obtain ⟨dC, dI, hK⟩ : ∃ (dC : Nat → ClassId) (dI : Nat → Nat → Nat), va_K (dC, dI) vwCl [] s := by
    have hm : ∀ ci, ci < 9 → ci ∈ [0, 1, 2, 3, 4, 5, 6, 7, 8] := by decide
    have h1 : ∀ ci, ∃ q : ClassId × (Nat → Nat), ci < 9 → u_Kn s (aO ci) (aT ci) (aLen ci) q.1 q.2 := fun ci => by
      by_cases hci : ci < 9
      · obtain ⟨cC, iS, h⟩ := u_known (C := aO ci) (T := aT ci) (N := aLen ci) (n := aLen ci) hin (aLay_in hci) (hin _ (aTB_in (aInst_ok ci (hm ci hci)) rfl))
        exact ⟨(cC, iS), fun _ => h⟩
      · exact ⟨(0, fun _ => 0), fun z => absurd z hci⟩
    refine ⟨fun ci => (h1 ci).choose.1, fun ci => (h1 ci).choose.2, fun ci q hq => ?_, fun k q h => by simp at h⟩
    have hci : ci < 9 := (List.getElem?_eq_some_iff.mp hq).1
    rw [aCl_at hci] at hq
    cases hq
    exact (h1 ci).choose_spec hci
  have hC : aCx (p, l, e, room_1, s, m, #[Value.ref b], below, meth, c, lw_Z below #[Value.ref b] s, dC, dI, s.heap.size, pre, some (L, xs), 4, 0) code 9 400 false H' := by
    refine ⟨hx, hb, hml, hown, hin, hK, hG, Nat.le_refl _, ?_, ?_, ?_, (fun h => by cases h), hlen⟩
    · show 400 + 1 ≤ 2048 ∧ 32 * 400 + 32 ≤ 84000
      omega
    · show s.heap.size + H'.1.length ≤ s.heap.size + 600000 ∧ aSz H' ≤ 0 + 7302250
      omega
    · intro q hq
      cases hq
      show va_X (pre 2999) L xs s s.heap ∧ pre 2999 < s.heap.size ∧ ¬ s.heap.size ≤ pre 2999
      rw [hpb]
      exact ⟨hX, hbl, Nat.not_le.mpr hbl⟩
  have hGd := aSound (rt := 1) (r := some (.int 1)) hC (aOK_all 400) aLawCd (fun Hp locs cells slots lsA pc ls Rl hfin => ?_) n 0 _ [] aH0 hrun
  · have hl := lv_entry ([.ref b]) (n := 4) (Nat.le_of_ble_eq_true rfl)
    rw [lg_entry_eq]
    refine hGd.2 _ _ _ _ _ (aEntry (vs := [.ref 2999]) ⟨rfl, fun k q h => ?_, fun i q h => ?_, rfl⟩ rfl ?_ (Nat.le_of_ble_eq_true rfl) rfl)
    · simp [aWs, aH0] at h
    · simp [aH0] at h
    · have e2 : ([Value.ref 2999].map (aVal (xd (p, l, e, room_1, s, m, #[Value.ref b], below, meth, c, lw_Z below #[Value.ref b] s, dC, dI, s.heap.size, pre, some (L, xs), 4, 0)))) = [Value.ref b] := by
        show [Value.ref (aAd s.heap.size pre 2999)] = _
        rw [aAd, if_neg (by omega), hpb]
      rw [e2]; exact hl
  · have c1 : s.heap.size + cells = s.heap.size + H'.1.length := Rl.2.2.2.2.2.1
    have c2 : 0 + slots = aSz H' := Rl.2.2.2.2.2.2.1
    rcases hfin with ⟨v, hv, hd, -⟩ | ⟨v, -, -, -, h2⟩ | ⟨h2, -⟩
    · refine va_forget (fun q hq => Rl.2.2.1.2.2 q hq) ?_
      refine W.widen (k := 600000) (n := 7302250) (by omega) (by omega) ?_
      exact lw_ret hx hb hr hlocks hd
    · cases h2
    · cases h2
end
section
theorem aGoal_ok : aGoal := sorry
theorem whole_start {p : Program} {e : Env} {s : State} {m : MethodId} {below : List Frame} {meth : Method} {c : Code} (l : Launch) (hflags : l.flags = flags0) {b L : Nat} {xs : Nat → Int32} (hL : L ≤ 3072) (C0 : lw_At p s m meth c b L xs) : W p l e room_1 s m #[Value.ref b] below meth c s.heap [] 0 0 (lw_Z below #[Value.ref b] s) (entryFrame m ([Value.ref b] : List Value).toArray 4) := whole_of aGoal_ok l hL C0
set_option maxHeartbeats 4000000 in
theorem lw_walk (l : Launch) (hflags : l.flags = flags0) (b : Addr) (xs : List Int32) : MetFree l x (headSpec (Jvm.Cond.code x code maxLocals ret :: tables_1) room_1) (lw_P b xs) (fun _ _ _ _ _ => True) lw_Q := by
  refine MetFree.of_bodyS (code := code) (maxLocals := maxLocals) (ret := ret) (by decide) ?_ ?_
  · intro args s m h hn
    obtain ⟨meth, c, h1, h2, h3, h4, h5, h6, -, -⟩ := Cond.code_spec hn (atoms_spec (ws := Jvm.Cond.code x code maxLocals ret :: tables_1) h _ List.mem_cons_self)
    exact ⟨meth, c, h1, h2, h3, h4, h5, h6⟩
  · intro p e s m args below meth c s₁ B hml0 hP _
    obtain ⟨rfl, hx, hbd, hgv⟩ := hP
    obtain ⟨scr, harrAt, hlist, hof, hsmall⟩ := hx
    obtain ⟨hcb, hkn, -, -⟩ := State.arrayAt?_spec harrAt
    have hown : s.vm.findClass R_law = some m.cls := findClass_of_methodNamed B.named
    have hts0 : ∀ c ∈ (Jvm.Cond.code x code maxLocals ret :: tables_1), c.before #[Value.ref b] s = true := atoms_spec (ws := Jvm.Cond.code x code maxLocals ret :: tables_1) B.pre
    have hts : ∀ w ∈ lw_tbl, w.before #[Value.ref b] s = true := k2_hts_sels lw_privs (fun w hw => hts0 w (List.mem_cons_of_mem _ hw)) lw_privs_ok
    have hml : c.maxLocals = 4 := B.maxLocals_eq (hts0 _ List.mem_cons_self)
    have X₀ : Stand p l e room_1 s m #[Value.ref b] below meth c s₁ [] 0 0 := Stand.of_body B
    have hh0 : s₁.heap = s.heap := by rw [B.state]; rfl
    have hsz : scr.slots.size = xs.length := by rw [← Array.length_toList, hlist, List.length_map]
    have hval : ∀ j : Nat, j < xs.length → scr.slots[j]? = some (.int (xs.getD j 0)) := fun j hj => by
      rw [← Array.getElem?_toList, hlist]
      simp [hj]
    have hbl : b < s.heap.size := (Array.getElem?_eq_some_iff.mp hcb).1
    have hX : va_X b xs.length (fun j => xs.getD j 0) s s.heap := ⟨scr, hcb, hof, hkn, hsz, hval⟩
    have K : W p l e room_1 s m #[Value.ref b] below meth c s₁.heap [] 0 0 (lw_Z below #[Value.ref b] s) (entryFrame m ([Value.ref b] : List Value).toArray 4) := by
      rw [hh0]
      exact whole_start l hflags hbd ⟨B.exec, B.bytes, B.returns, hml, hown, hts, hX, hbl, B.notSynchronized, hgv⟩
    obtain ⟨t, a1, o, b1, b2, b3⟩ := K s₁ rfl X₀
    exact ⟨t, o, a1, b1, b2, b3⟩
theorem lw_pre_spec {args : Array Value} {s : State} (h : (Jvm.Cond.and given_1 narrow_1).before args s = true) (hr : rest_1_c.before args s = true) : ∃ (b : Addr) (xs : List Int32), lw_P b xs args s := by
  have hs := flat_of_before _ h
  have hq := flat_of_before _ hr
  have hc : (Cond.count 1).before args s = true := hs _ (by decide +kernel)
  have harr : (Cond.arrayOf (.arg 0) .int).before args s = true := hs _ (by decide +kernel)
  have hle : (Cond.le (.length (.arg 0)) (.int 3072)).before args s = true := hs _ (by decide +kernel)
  have hlen : (Cond.isInt (.length (.arg 0))).before args s = true := hq _ (by decide +kernel)
  have hall : (Cond.all (.arg 0) (.isInt (.elem (.arg 0) (.index 0)))).before args s = true := hq _ (by decide +kernel)
  obtain ⟨b, xs, hb, hx⟩ := State.ints_of_pre rfl harr hlen hall
  have hsm : xs.length < 2 ^ 31 := hx.choose_spec.2.2.2
  have hev : (Term.length (.arg 0)).eval args s none [] s = some (.int xs.length.toInt32) := hx.length_eval hb
  have hv := Cond.le_ints hev (show (Term.int 3072).eval args s none [] s = some (.int 3072) from rfl)
  have hd : xs.length.toInt32 ≤ 3072 := by
    simpa [Cond.before, Cond.holds, hv] using hle
  have hN : xs.length ≤ 3072 := (Int32.ofNat_le_ofNat hsm (by decide)).mp (show Int32.ofNat xs.length ≤ Int32.ofNat 3072 from hd)
  exact ⟨b, xs, Cond.one_arg hc (show args[0]? = some (.ref b) from hb), hx, hN, h⟩
theorem lw_comes (l : Launch) (hflags : l.flags = flags0) : Comes l x (Jvm.Cond.code x code maxLocals ret :: tables_1) room_1 (fun tb e args s => Calls_1 tb e args s ∧ rest_1 tb e args s ∧ Pre_1 tb e args s)
    (fun _ _ args s o t => lw_Q args s o t) := by
  intro p e ha hc hk s m args below hf hfit hheap happ hpre
  obtain ⟨b, xs, hP⟩ := lw_pre_spec hpre.2.2 hpre.2.1
  obtain ⟨k, o, h1, h2, h3, hQ⟩ := lw_walk l hflags b xs p e ha hc hk s m args below hf ((Spec.applies_iff_loose hf).mp happ).1 hP trivial
  exact ⟨k, o, h1, h2, h3, hQ⟩
theorem lw_frame {s t : State} {o : Outcome} {args : Array Value} (h : Framed s o t [] 600000 7302250) :
    Framed s o t (fieldLocs frame_1_writes args s ++ arrayLocs frame_1_arrays args s ++ staticLocs frame_1_statics s) 600000 7302250 := h
theorem lw_limb (L : Cond) (hL : ∀ (args : Array Value) (s t : State), L.after args s (.returned (some (.int 1))) t = true) :
    ArmFor flags0 classFile x code maxLocals ret World_1 tables_1 room_1 Calls_1 rest_1 Pre_1
      (fun tb e a s o t => postC L tb e a s o t ∧ Framed s o t (fieldLocs frame_1_writes a s ++ arrayLocs frame_1_arrays a s ++ staticLocs frame_1_statics s) 600000 7302250) := by
  intro l hflags _ _ p e ha hc hk s m args below hf hfit hheap happ hpre
  obtain ⟨k, o, h1, h2, h3, rfl, hF⟩ := lw_comes l hflags p e ha hc hk s m args below hf hfit hheap happ hpre
  exact ⟨k, _, h1, h2, h3, hL args s _, lw_frame hF⟩
theorem i_vc : Claimed_1_1 ∧ Claimed_1_2 := ⟨lw_limb limb_1_1 (fun args s t => by simp [limb_1_1, Cond.after, Cond.holds, Cond.value]), lw_limb limb_1_2 (fun args s t => Cond.after_iff.mpr (by
  first | (rw [show limb_1_2 = Cond.eq .result (.int 1) from rfl, Cond.eq_ints (x := 1) (y := 1) rfl rfl]; simp; done) | (simp [limb_1_2, Cond.value, Term.eval]; done)))⟩
end

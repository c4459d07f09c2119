-- ===== PART A: goes FIRST, ahead of the names: the tables' words, and 'selects' of the private methods out of them =====
/-- a private method of a class that the tables say can be made, by its rows of tables_1 -/
def lw_okq (q : MethodName × Nat) : Prop := (q.1.cls ≠ "java/lang/invoke/MethodHandle" ∧ q.1.cls ≠ "java/lang/invoke/VarHandle") ∧ Cond.instantiable q.1.cls q.2 ∈ tables_1 ∧ Cond.privateMethod q.1 ∈ tables_1 ∧ Cond.instanceMethod q.1 ∈ tables_1
theorem lw_p0 : lw_okq (⟨"ElevenYoghurts", "refuse", "(I)I"⟩, 9) := ⟨⟨by decide +kernel, by decide +kernel⟩, List.mem_of_getElem? (i := 20) (by decide +kernel), List.mem_of_getElem? (i := 315) (by decide +kernel), List.mem_of_getElem? (i := 316) (by decide +kernel)⟩
theorem lw_p1 : lw_okq (⟨"ElevenYoghurts", "canFeel", "(LElevenYoghurts$Person;II)Z"⟩, 9) := ⟨⟨by decide +kernel, by decide +kernel⟩, List.mem_of_getElem? (i := 20) (by decide +kernel), List.mem_of_getElem? (i := 367) (by decide +kernel), List.mem_of_getElem? (i := 368) (by decide +kernel)⟩
theorem lw_p2 : lw_okq (⟨"ElevenYoghurts$Law", "workedOut", "(III)I"⟩, 5) := ⟨⟨by decide +kernel, by decide +kernel⟩, List.mem_of_getElem? (i := 38) (by decide +kernel), List.mem_of_getElem? (i := 399) (by decide +kernel), List.mem_of_getElem? (i := 400) (by decide +kernel)⟩
theorem lw_p3 : lw_okq (⟨"ElevenYoghurts$Reader", "readsChain", "(II)Z"⟩, 5) := ⟨⟨by decide +kernel, by decide +kernel⟩, List.mem_of_getElem? (i := 199) (by decide +kernel), List.mem_of_getElem? (i := 457) (by decide +kernel), List.mem_of_getElem? (i := 458) (by decide +kernel)⟩
theorem lw_p4 : lw_okq (⟨"ElevenYoghurts$Reader", "readsOperand", "(I)Z"⟩, 5) := ⟨⟨by decide +kernel, by decide +kernel⟩, List.mem_of_getElem? (i := 199) (by decide +kernel), List.mem_of_getElem? (i := 461) (by decide +kernel), List.mem_of_getElem? (i := 462) (by decide +kernel)⟩
theorem lw_p5 : lw_okq (⟨"ElevenYoghurts$Reader", "readNumber", "()V"⟩, 5) := ⟨⟨by decide +kernel, by decide +kernel⟩, List.mem_of_getElem? (i := 199) (by decide +kernel), List.mem_of_getElem? (i := 466) (by decide +kernel), List.mem_of_getElem? (i := 467) (by decide +kernel)⟩
theorem lw_p6 : lw_okq (⟨"ElevenYoghurts$Reader", "readsDenied", "(I)Z"⟩, 5) := ⟨⟨by decide +kernel, by decide +kernel⟩, List.mem_of_getElem? (i := 199) (by decide +kernel), List.mem_of_getElem? (i := 556) (by decide +kernel), List.mem_of_getElem? (i := 557) (by decide +kernel)⟩
theorem lw_p7 : lw_okq (⟨"ElevenYoghurts$Reader", "readsClosed", "(I)Z"⟩, 5) := ⟨⟨by decide +kernel, by decide +kernel⟩, List.mem_of_getElem? (i := 199) (by decide +kernel), List.mem_of_getElem? (i := 560) (by decide +kernel), List.mem_of_getElem? (i := 561) (by decide +kernel)⟩
theorem lw_p8 : lw_okq (⟨"ElevenYoghurts", "othersWanting", "(II)I"⟩, 9) := ⟨⟨by decide +kernel, by decide +kernel⟩, List.mem_of_getElem? (i := 20) (by decide +kernel), List.mem_of_getElem? (i := 711) (by decide +kernel), List.mem_of_getElem? (i := 712) (by decide +kernel)⟩
theorem lw_p9 : lw_okq (⟨"ElevenYoghurts", "locksForPeace", "()I"⟩, 9) := ⟨⟨by decide +kernel, by decide +kernel⟩, List.mem_of_getElem? (i := 20) (by decide +kernel), List.mem_of_getElem? (i := 725) (by decide +kernel), List.mem_of_getElem? (i := 726) (by decide +kernel)⟩
theorem lw_p10 : lw_okq (⟨"ElevenYoghurts", "sheetAt", "(I)LElevenYoghurts$Sheet;"⟩, 9) := ⟨⟨by decide +kernel, by decide +kernel⟩, List.mem_of_getElem? (i := 20) (by decide +kernel), List.mem_of_getElem? (i := 755) (by decide +kernel), List.mem_of_getElem? (i := 756) (by decide +kernel)⟩
theorem lw_p11 : lw_okq (⟨"ElevenYoghurts", "wouldTake", "(ILElevenYoghurts$Sheet;)Z"⟩, 9) := ⟨⟨by decide +kernel, by decide +kernel⟩, List.mem_of_getElem? (i := 20) (by decide +kernel), List.mem_of_getElem? (i := 764) (by decide +kernel), List.mem_of_getElem? (i := 765) (by decide +kernel)⟩
theorem lw_p12 : lw_okq (⟨"ElevenYoghurts$Voices", "say", "(IIII)I"⟩, 7) := ⟨⟨by decide +kernel, by decide +kernel⟩, List.mem_of_getElem? (i := 225) (by decide +kernel), List.mem_of_getElem? (i := 784) (by decide +kernel), List.mem_of_getElem? (i := 785) (by decide +kernel)⟩
theorem lw_p13 : lw_okq (⟨"ElevenYoghurts$Voices", "begin", "(I)V"⟩, 7) := ⟨⟨by decide +kernel, by decide +kernel⟩, List.mem_of_getElem? (i := 225) (by decide +kernel), List.mem_of_getElem? (i := 795) (by decide +kernel), List.mem_of_getElem? (i := 796) (by decide +kernel)⟩
theorem lw_p14 : lw_okq (⟨"ElevenYoghurts$Voices", "partedIn", "(II)I"⟩, 7) := ⟨⟨by decide +kernel, by decide +kernel⟩, List.mem_of_getElem? (i := 225) (by decide +kernel), List.mem_of_getElem? (i := 799) (by decide +kernel), List.mem_of_getElem? (i := 800) (by decide +kernel)⟩
theorem lw_p15 : lw_okq (⟨"ElevenYoghurtsModel", "error", "(I)I"⟩, 22) := ⟨⟨by decide +kernel, by decide +kernel⟩, List.mem_of_getElem? (i := 867) (by decide +kernel), List.mem_of_getElem? (i := 947) (by decide +kernel), List.mem_of_getElem? (i := 948) (by decide +kernel)⟩
def lw_privs_1 : List (MethodName × Nat) := [(⟨"ElevenYoghurts", "refuse", "(I)I"⟩, 9), (⟨"ElevenYoghurts", "canFeel", "(LElevenYoghurts$Person;II)Z"⟩, 9), (⟨"ElevenYoghurts$Law", "workedOut", "(III)I"⟩, 5), (⟨"ElevenYoghurts$Reader", "readsChain", "(II)Z"⟩, 5), (⟨"ElevenYoghurts$Reader", "readsOperand", "(I)Z"⟩, 5), (⟨"ElevenYoghurts$Reader", "readNumber", "()V"⟩, 5), (⟨"ElevenYoghurts$Reader", "readsDenied", "(I)Z"⟩, 5), (⟨"ElevenYoghurts$Reader", "readsClosed", "(I)Z"⟩, 5), (⟨"ElevenYoghurts", "othersWanting", "(II)I"⟩, 9), (⟨"ElevenYoghurts", "locksForPeace", "()I"⟩, 9), (⟨"ElevenYoghurts", "sheetAt", "(I)LElevenYoghurts$Sheet;"⟩, 9), (⟨"ElevenYoghurts", "wouldTake", "(ILElevenYoghurts$Sheet;)Z"⟩, 9), (⟨"ElevenYoghurts$Voices", "say", "(IIII)I"⟩, 7), (⟨"ElevenYoghurts$Voices", "begin", "(I)V"⟩, 7), (⟨"ElevenYoghurts$Voices", "partedIn", "(II)I"⟩, 7), (⟨"ElevenYoghurtsModel", "error", "(I)I"⟩, 22)]
theorem lw_r1 : ∀ q ∈ lw_privs_1, lw_okq q := List.forall_mem_cons.mpr ⟨lw_p0, List.forall_mem_cons.mpr ⟨lw_p1, List.forall_mem_cons.mpr ⟨lw_p2, List.forall_mem_cons.mpr ⟨lw_p3, List.forall_mem_cons.mpr ⟨lw_p4, List.forall_mem_cons.mpr ⟨lw_p5, List.forall_mem_cons.mpr ⟨lw_p6, List.forall_mem_cons.mpr ⟨lw_p7, List.forall_mem_cons.mpr ⟨lw_p8, List.forall_mem_cons.mpr ⟨lw_p9, List.forall_mem_cons.mpr ⟨lw_p10, List.forall_mem_cons.mpr ⟨lw_p11, List.forall_mem_cons.mpr ⟨lw_p12, List.forall_mem_cons.mpr ⟨lw_p13, List.forall_mem_cons.mpr ⟨lw_p14, List.forall_mem_cons.mpr ⟨lw_p15, fun _ h => absurd h List.not_mem_nil⟩⟩⟩⟩⟩⟩⟩⟩⟩⟩⟩⟩⟩⟩⟩⟩
theorem lw_p16 : lw_okq (⟨"ElevenYoghurtsModel", "whole", "()Z"⟩, 22) := ⟨⟨by decide +kernel, by decide +kernel⟩, List.mem_of_getElem? (i := 867) (by decide +kernel), List.mem_of_getElem? (i := 957) (by decide +kernel), List.mem_of_getElem? (i := 958) (by decide +kernel)⟩
theorem lw_p17 : lw_okq (⟨"ElevenYoghurtsModel", "both", "()Z"⟩, 22) := ⟨⟨by decide +kernel, by decide +kernel⟩, List.mem_of_getElem? (i := 867) (by decide +kernel), List.mem_of_getElem? (i := 961) (by decide +kernel), List.mem_of_getElem? (i := 962) (by decide +kernel)⟩
theorem lw_p18 : lw_okq (⟨"ElevenYoghurtsModel", "compared", "()Z"⟩, 22) := ⟨⟨by decide +kernel, by decide +kernel⟩, List.mem_of_getElem? (i := 867) (by decide +kernel), List.mem_of_getElem? (i := 965) (by decide +kernel), List.mem_of_getElem? (i := 966) (by decide +kernel)⟩
theorem lw_p19 : lw_okq (⟨"ElevenYoghurtsModel", "sum", "()Z"⟩, 22) := ⟨⟨by decide +kernel, by decide +kernel⟩, List.mem_of_getElem? (i := 867) (by decide +kernel), List.mem_of_getElem? (i := 969) (by decide +kernel), List.mem_of_getElem? (i := 970) (by decide +kernel)⟩
theorem lw_p20 : lw_okq (⟨"ElevenYoghurtsModel", "product", "()Z"⟩, 22) := ⟨⟨by decide +kernel, by decide +kernel⟩, List.mem_of_getElem? (i := 867) (by decide +kernel), List.mem_of_getElem? (i := 973) (by decide +kernel), List.mem_of_getElem? (i := 974) (by decide +kernel)⟩
theorem lw_p21 : lw_okq (⟨"ElevenYoghurtsModel", "one", "()Z"⟩, 22) := ⟨⟨by decide +kernel, by decide +kernel⟩, List.mem_of_getElem? (i := 867) (by decide +kernel), List.mem_of_getElem? (i := 977) (by decide +kernel), List.mem_of_getElem? (i := 978) (by decide +kernel)⟩
theorem lw_p22 : lw_okq (⟨"ElevenYoghurtsModel", "look", "()I"⟩, 22) := ⟨⟨by decide +kernel, by decide +kernel⟩, List.mem_of_getElem? (i := 867) (by decide +kernel), List.mem_of_getElem? (i := 981) (by decide +kernel), List.mem_of_getElem? (i := 982) (by decide +kernel)⟩
theorem lw_p23 : lw_okq (⟨"ElevenYoghurtsModel", "isName", "(I)Z"⟩, 22) := ⟨⟨by decide +kernel, by decide +kernel⟩, List.mem_of_getElem? (i := 867) (by decide +kernel), List.mem_of_getElem? (i := 985) (by decide +kernel), List.mem_of_getElem? (i := 986) (by decide +kernel)⟩
theorem lw_p24 : lw_okq (⟨"ElevenYoghurtsModel", "step1", "(II)V"⟩, 22) := ⟨⟨by decide +kernel, by decide +kernel⟩, List.mem_of_getElem? (i := 867) (by decide +kernel), List.mem_of_getElem? (i := 989) (by decide +kernel), List.mem_of_getElem? (i := 990) (by decide +kernel)⟩
theorem lw_p25 : lw_okq (⟨"ElevenYoghurtsModel", "opens", "()Z"⟩, 22) := ⟨⟨by decide +kernel, by decide +kernel⟩, List.mem_of_getElem? (i := 867) (by decide +kernel), List.mem_of_getElem? (i := 993) (by decide +kernel), List.mem_of_getElem? (i := 994) (by decide +kernel)⟩
theorem lw_p26 : lw_okq (⟨"ElevenYoghurtsModel", "hasText", "(I)Z"⟩, 22) := ⟨⟨by decide +kernel, by decide +kernel⟩, List.mem_of_getElem? (i := 867) (by decide +kernel), List.mem_of_getElem? (i := 1001) (by decide +kernel), List.mem_of_getElem? (i := 1002) (by decide +kernel)⟩
theorem lw_p27 : lw_okq (⟨"ElevenYoghurtsModel", "lays1", "(III)V"⟩, 22) := ⟨⟨by decide +kernel, by decide +kernel⟩, List.mem_of_getElem? (i := 867) (by decide +kernel), List.mem_of_getElem? (i := 1012) (by decide +kernel), List.mem_of_getElem? (i := 1013) (by decide +kernel)⟩
theorem lw_p28 : lw_okq (⟨"ElevenYoghurtsModel", "isPerson", "(I)Z"⟩, 22) := ⟨⟨by decide +kernel, by decide +kernel⟩, List.mem_of_getElem? (i := 867) (by decide +kernel), List.mem_of_getElem? (i := 1020) (by decide +kernel), List.mem_of_getElem? (i := 1021) (by decide +kernel)⟩
theorem lw_p29 : lw_okq (⟨"ElevenYoghurtsModel", "its", "(II)I"⟩, 22) := ⟨⟨by decide +kernel, by decide +kernel⟩, List.mem_of_getElem? (i := 867) (by decide +kernel), List.mem_of_getElem? (i := 1024) (by decide +kernel), List.mem_of_getElem? (i := 1025) (by decide +kernel)⟩
theorem lw_p30 : lw_okq (⟨"ElevenYoghurtsModel", "hisThings", "(I)I"⟩, 22) := ⟨⟨by decide +kernel, by decide +kernel⟩, List.mem_of_getElem? (i := 867) (by decide +kernel), List.mem_of_getElem? (i := 1028) (by decide +kernel), List.mem_of_getElem? (i := 1029) (by decide +kernel)⟩
theorem lw_p31 : lw_okq (⟨"ElevenYoghurtsModel", "isThere", "(I)Z"⟩, 22) := ⟨⟨by decide +kernel, by decide +kernel⟩, List.mem_of_getElem? (i := 867) (by decide +kernel), List.mem_of_getElem? (i := 1032) (by decide +kernel), List.mem_of_getElem? (i := 1033) (by decide +kernel)⟩
def lw_privs_2 : List (MethodName × Nat) := [(⟨"ElevenYoghurtsModel", "whole", "()Z"⟩, 22), (⟨"ElevenYoghurtsModel", "both", "()Z"⟩, 22), (⟨"ElevenYoghurtsModel", "compared", "()Z"⟩, 22), (⟨"ElevenYoghurtsModel", "sum", "()Z"⟩, 22), (⟨"ElevenYoghurtsModel", "product", "()Z"⟩, 22), (⟨"ElevenYoghurtsModel", "one", "()Z"⟩, 22), (⟨"ElevenYoghurtsModel", "look", "()I"⟩, 22), (⟨"ElevenYoghurtsModel", "isName", "(I)Z"⟩, 22), (⟨"ElevenYoghurtsModel", "step1", "(II)V"⟩, 22), (⟨"ElevenYoghurtsModel", "opens", "()Z"⟩, 22), (⟨"ElevenYoghurtsModel", "hasText", "(I)Z"⟩, 22), (⟨"ElevenYoghurtsModel", "lays1", "(III)V"⟩, 22), (⟨"ElevenYoghurtsModel", "isPerson", "(I)Z"⟩, 22), (⟨"ElevenYoghurtsModel", "its", "(II)I"⟩, 22), (⟨"ElevenYoghurtsModel", "hisThings", "(I)I"⟩, 22), (⟨"ElevenYoghurtsModel", "isThere", "(I)Z"⟩, 22)]
theorem lw_r2 : ∀ q ∈ lw_privs_2, lw_okq q := List.forall_mem_cons.mpr ⟨lw_p16, List.forall_mem_cons.mpr ⟨lw_p17, List.forall_mem_cons.mpr ⟨lw_p18, List.forall_mem_cons.mpr ⟨lw_p19, List.forall_mem_cons.mpr ⟨lw_p20, List.forall_mem_cons.mpr ⟨lw_p21, List.forall_mem_cons.mpr ⟨lw_p22, List.forall_mem_cons.mpr ⟨lw_p23, List.forall_mem_cons.mpr ⟨lw_p24, List.forall_mem_cons.mpr ⟨lw_p25, List.forall_mem_cons.mpr ⟨lw_p26, List.forall_mem_cons.mpr ⟨lw_p27, List.forall_mem_cons.mpr ⟨lw_p28, List.forall_mem_cons.mpr ⟨lw_p29, List.forall_mem_cons.mpr ⟨lw_p30, List.forall_mem_cons.mpr ⟨lw_p31, fun _ h => absurd h List.not_mem_nil⟩⟩⟩⟩⟩⟩⟩⟩⟩⟩⟩⟩⟩⟩⟩⟩
theorem lw_p32 : lw_okq (⟨"ElevenYoghurtsModel", "of", "(II)I"⟩, 22) := ⟨⟨by decide +kernel, by decide +kernel⟩, List.mem_of_getElem? (i := 867) (by decide +kernel), List.mem_of_getElem? (i := 1036) (by decide +kernel), List.mem_of_getElem? (i := 1037) (by decide +kernel)⟩
theorem lw_p33 : lw_okq (⟨"ElevenYoghurtsModel", "change1", "(II)I"⟩, 22) := ⟨⟨by decide +kernel, by decide +kernel⟩, List.mem_of_getElem? (i := 867) (by decide +kernel), List.mem_of_getElem? (i := 1044) (by decide +kernel), List.mem_of_getElem? (i := 1045) (by decide +kernel)⟩
theorem lw_p34 : lw_okq (⟨"ElevenYoghurtsModel", "lays2", "(III)V"⟩, 22) := ⟨⟨by decide +kernel, by decide +kernel⟩, List.mem_of_getElem? (i := 867) (by decide +kernel), List.mem_of_getElem? (i := 1063) (by decide +kernel), List.mem_of_getElem? (i := 1064) (by decide +kernel)⟩
theorem lw_p35 : lw_okq (⟨"ElevenYoghurtsModel", "isThing", "(I)Z"⟩, 22) := ⟨⟨by decide +kernel, by decide +kernel⟩, List.mem_of_getElem? (i := 867) (by decide +kernel), List.mem_of_getElem? (i := 1071) (by decide +kernel), List.mem_of_getElem? (i := 1072) (by decide +kernel)⟩
theorem lw_p36 : lw_okq (⟨"ElevenYoghurtsModel", "appeal", "(I)I"⟩, 22) := ⟨⟨by decide +kernel, by decide +kernel⟩, List.mem_of_getElem? (i := 867) (by decide +kernel), List.mem_of_getElem? (i := 1075) (by decide +kernel), List.mem_of_getElem? (i := 1076) (by decide +kernel)⟩
theorem lw_p37 : lw_okq (⟨"ElevenYoghurtsModel", "appealTold", "(III)I"⟩, 22) := ⟨⟨by decide +kernel, by decide +kernel⟩, List.mem_of_getElem? (i := 867) (by decide +kernel), List.mem_of_getElem? (i := 1079) (by decide +kernel), List.mem_of_getElem? (i := 1080) (by decide +kernel)⟩
theorem lw_p38 : lw_okq (⟨"ElevenYoghurtsModel", "worked", "(I)I"⟩, 22) := ⟨⟨by decide +kernel, by decide +kernel⟩, List.mem_of_getElem? (i := 867) (by decide +kernel), List.mem_of_getElem? (i := 1083) (by decide +kernel), List.mem_of_getElem? (i := 1084) (by decide +kernel)⟩
theorem lw_p39 : lw_okq (⟨"ElevenYoghurtsModel", "howMany", "()I"⟩, 22) := ⟨⟨by decide +kernel, by decide +kernel⟩, List.mem_of_getElem? (i := 867) (by decide +kernel), List.mem_of_getElem? (i := 1104) (by decide +kernel), List.mem_of_getElem? (i := 1105) (by decide +kernel)⟩
theorem lw_p40 : lw_okq (⟨"ElevenYoghurtsModel", "guardTold", "(III)I"⟩, 22) := ⟨⟨by decide +kernel, by decide +kernel⟩, List.mem_of_getElem? (i := 867) (by decide +kernel), List.mem_of_getElem? (i := 1112) (by decide +kernel), List.mem_of_getElem? (i := 1113) (by decide +kernel)⟩
theorem lw_p41 : lw_okq (⟨"ElevenYoghurtsModel", "urgeOf", "(II)I"⟩, 22) := ⟨⟨by decide +kernel, by decide +kernel⟩, List.mem_of_getElem? (i := 867) (by decide +kernel), List.mem_of_getElem? (i := 1120) (by decide +kernel), List.mem_of_getElem? (i := 1121) (by decide +kernel)⟩
theorem lw_p42 : lw_okq (⟨"ElevenYoghurtsModel", "asTaker", "(IIZ)I"⟩, 22) := ⟨⟨by decide +kernel, by decide +kernel⟩, List.mem_of_getElem? (i := 867) (by decide +kernel), List.mem_of_getElem? (i := 1124) (by decide +kernel), List.mem_of_getElem? (i := 1125) (by decide +kernel)⟩
theorem lw_p43 : lw_okq (⟨"ElevenYoghurtsModel", "asPerson", "(IZ)I"⟩, 22) := ⟨⟨by decide +kernel, by decide +kernel⟩, List.mem_of_getElem? (i := 867) (by decide +kernel), List.mem_of_getElem? (i := 1128) (by decide +kernel), List.mem_of_getElem? (i := 1129) (by decide +kernel)⟩
theorem lw_p44 : lw_okq (⟨"ElevenYoghurtsModel", "asAvenger", "(IIZ)I"⟩, 22) := ⟨⟨by decide +kernel, by decide +kernel⟩, List.mem_of_getElem? (i := 867) (by decide +kernel), List.mem_of_getElem? (i := 1132) (by decide +kernel), List.mem_of_getElem? (i := 1133) (by decide +kernel)⟩
theorem lw_p45 : lw_okq (⟨"ElevenYoghurtsModel", "guardOf", "(II)I"⟩, 22) := ⟨⟨by decide +kernel, by decide +kernel⟩, List.mem_of_getElem? (i := 867) (by decide +kernel), List.mem_of_getElem? (i := 1140) (by decide +kernel), List.mem_of_getElem? (i := 1141) (by decide +kernel)⟩
theorem lw_p46 : lw_okq (⟨"ElevenYoghurtsModel", "comesNow", "(II)I"⟩, 22) := ⟨⟨by decide +kernel, by decide +kernel⟩, List.mem_of_getElem? (i := 867) (by decide +kernel), List.mem_of_getElem? (i := 1148) (by decide +kernel), List.mem_of_getElem? (i := 1149) (by decide +kernel)⟩
theorem lw_p47 : lw_okq (⟨"ElevenYoghurtsModel", "wanted", "(II)I"⟩, 22) := ⟨⟨by decide +kernel, by decide +kernel⟩, List.mem_of_getElem? (i := 867) (by decide +kernel), List.mem_of_getElem? (i := 1152) (by decide +kernel), List.mem_of_getElem? (i := 1153) (by decide +kernel)⟩
def lw_privs_3 : List (MethodName × Nat) := [(⟨"ElevenYoghurtsModel", "of", "(II)I"⟩, 22), (⟨"ElevenYoghurtsModel", "change1", "(II)I"⟩, 22), (⟨"ElevenYoghurtsModel", "lays2", "(III)V"⟩, 22), (⟨"ElevenYoghurtsModel", "isThing", "(I)Z"⟩, 22), (⟨"ElevenYoghurtsModel", "appeal", "(I)I"⟩, 22), (⟨"ElevenYoghurtsModel", "appealTold", "(III)I"⟩, 22), (⟨"ElevenYoghurtsModel", "worked", "(I)I"⟩, 22), (⟨"ElevenYoghurtsModel", "howMany", "()I"⟩, 22), (⟨"ElevenYoghurtsModel", "guardTold", "(III)I"⟩, 22), (⟨"ElevenYoghurtsModel", "urgeOf", "(II)I"⟩, 22), (⟨"ElevenYoghurtsModel", "asTaker", "(IIZ)I"⟩, 22), (⟨"ElevenYoghurtsModel", "asPerson", "(IZ)I"⟩, 22), (⟨"ElevenYoghurtsModel", "asAvenger", "(IIZ)I"⟩, 22), (⟨"ElevenYoghurtsModel", "guardOf", "(II)I"⟩, 22), (⟨"ElevenYoghurtsModel", "comesNow", "(II)I"⟩, 22), (⟨"ElevenYoghurtsModel", "wanted", "(II)I"⟩, 22)]
theorem lw_r3 : ∀ q ∈ lw_privs_3, lw_okq q := List.forall_mem_cons.mpr ⟨lw_p32, List.forall_mem_cons.mpr ⟨lw_p33, List.forall_mem_cons.mpr ⟨lw_p34, List.forall_mem_cons.mpr ⟨lw_p35, List.forall_mem_cons.mpr ⟨lw_p36, List.forall_mem_cons.mpr ⟨lw_p37, List.forall_mem_cons.mpr ⟨lw_p38, List.forall_mem_cons.mpr ⟨lw_p39, List.forall_mem_cons.mpr ⟨lw_p40, List.forall_mem_cons.mpr ⟨lw_p41, List.forall_mem_cons.mpr ⟨lw_p42, List.forall_mem_cons.mpr ⟨lw_p43, List.forall_mem_cons.mpr ⟨lw_p44, List.forall_mem_cons.mpr ⟨lw_p45, List.forall_mem_cons.mpr ⟨lw_p46, List.forall_mem_cons.mpr ⟨lw_p47, fun _ h => absurd h List.not_mem_nil⟩⟩⟩⟩⟩⟩⟩⟩⟩⟩⟩⟩⟩⟩⟩⟩
theorem lw_p48 : lw_okq (⟨"ElevenYoghurtsModel", "canGo", "(I)Z"⟩, 22) := ⟨⟨by decide +kernel, by decide +kernel⟩, List.mem_of_getElem? (i := 867) (by decide +kernel), List.mem_of_getElem? (i := 1156) (by decide +kernel), List.mem_of_getElem? (i := 1157) (by decide +kernel)⟩
theorem lw_p49 : lw_okq (⟨"ElevenYoghurtsModel", "drawn", "(III)I"⟩, 22) := ⟨⟨by decide +kernel, by decide +kernel⟩, List.mem_of_getElem? (i := 867) (by decide +kernel), List.mem_of_getElem? (i := 1160) (by decide +kernel), List.mem_of_getElem? (i := 1161) (by decide +kernel)⟩
theorem lw_p50 : lw_okq (⟨"ElevenYoghurtsModel", "more", "(II)V"⟩, 22) := ⟨⟨by decide +kernel, by decide +kernel⟩, List.mem_of_getElem? (i := 867) (by decide +kernel), List.mem_of_getElem? (i := 1164) (by decide +kernel), List.mem_of_getElem? (i := 1165) (by decide +kernel)⟩
theorem lw_p51 : lw_okq (⟨"ElevenYoghurtsModel", "drawnHour", "()I"⟩, 22) := ⟨⟨by decide +kernel, by decide +kernel⟩, List.mem_of_getElem? (i := 867) (by decide +kernel), List.mem_of_getElem? (i := 1172) (by decide +kernel), List.mem_of_getElem? (i := 1173) (by decide +kernel)⟩
theorem lw_p52 : lw_okq (⟨"ElevenYoghurtsModel", "draw", "()I"⟩, 22) := ⟨⟨by decide +kernel, by decide +kernel⟩, List.mem_of_getElem? (i := 867) (by decide +kernel), List.mem_of_getElem? (i := 1176) (by decide +kernel), List.mem_of_getElem? (i := 1177) (by decide +kernel)⟩
theorem lw_p53 : lw_okq (⟨"ElevenYoghurtsModel", "hourGoes", "()V"⟩, 22) := ⟨⟨by decide +kernel, by decide +kernel⟩, List.mem_of_getElem? (i := 867) (by decide +kernel), List.mem_of_getElem? (i := 1181) (by decide +kernel), List.mem_of_getElem? (i := 1182) (by decide +kernel)⟩
theorem lw_p54 : lw_okq (⟨"ElevenYoghurtsModel", "othersWant", "(I)I"⟩, 22) := ⟨⟨by decide +kernel, by decide +kernel⟩, List.mem_of_getElem? (i := 867) (by decide +kernel), List.mem_of_getElem? (i := 1205) (by decide +kernel), List.mem_of_getElem? (i := 1206) (by decide +kernel)⟩
theorem lw_p55 : lw_okq (⟨"ElevenYoghurtsModel", "isPeace", "(I)Z"⟩, 22) := ⟨⟨by decide +kernel, by decide +kernel⟩, List.mem_of_getElem? (i := 867) (by decide +kernel), List.mem_of_getElem? (i := 1216) (by decide +kernel), List.mem_of_getElem? (i := 1217) (by decide +kernel)⟩
theorem lw_p56 : lw_okq (⟨"ElevenYoghurtsModel", "robs", "(I)I"⟩, 22) := ⟨⟨by decide +kernel, by decide +kernel⟩, List.mem_of_getElem? (i := 867) (by decide +kernel), List.mem_of_getElem? (i := 1224) (by decide +kernel), List.mem_of_getElem? (i := 1225) (by decide +kernel)⟩
theorem lw_p57 : lw_okq (⟨"ElevenYoghurtsModel", "lacks", "(I)I"⟩, 22) := ⟨⟨by decide +kernel, by decide +kernel⟩, List.mem_of_getElem? (i := 867) (by decide +kernel), List.mem_of_getElem? (i := 1239) (by decide +kernel), List.mem_of_getElem? (i := 1240) (by decide +kernel)⟩
theorem lw_p58 : lw_okq (⟨"ElevenYoghurtsModel", "layDown", "()V"⟩, 22) := ⟨⟨by decide +kernel, by decide +kernel⟩, List.mem_of_getElem? (i := 867) (by decide +kernel), List.mem_of_getElem? (i := 1246) (by decide +kernel), List.mem_of_getElem? (i := 1247) (by decide +kernel)⟩
theorem lw_p59 : lw_okq (⟨"ElevenYoghurtsModel", "layBack", "()V"⟩, 22) := ⟨⟨by decide +kernel, by decide +kernel⟩, List.mem_of_getElem? (i := 867) (by decide +kernel), List.mem_of_getElem? (i := 1250) (by decide +kernel), List.mem_of_getElem? (i := 1251) (by decide +kernel)⟩
theorem lw_p60 : lw_okq (⟨"ElevenYoghurtsModel", "kindNow", "()I"⟩, 22) := ⟨⟨by decide +kernel, by decide +kernel⟩, List.mem_of_getElem? (i := 867) (by decide +kernel), List.mem_of_getElem? (i := 1266) (by decide +kernel), List.mem_of_getElem? (i := 1267) (by decide +kernel)⟩
theorem lw_p61 : lw_okq (⟨"ElevenYoghurtsModel", "sniffsAs", "(II)I"⟩, 22) := ⟨⟨by decide +kernel, by decide +kernel⟩, List.mem_of_getElem? (i := 867) (by decide +kernel), List.mem_of_getElem? (i := 1270) (by decide +kernel), List.mem_of_getElem? (i := 1271) (by decide +kernel)⟩
theorem lw_p62 : lw_okq (⟨"ElevenYoghurtsModel", "begins", "(I)V"⟩, 22) := ⟨⟨by decide +kernel, by decide +kernel⟩, List.mem_of_getElem? (i := 867) (by decide +kernel), List.mem_of_getElem? (i := 1274) (by decide +kernel), List.mem_of_getElem? (i := 1275) (by decide +kernel)⟩
theorem lw_p63 : lw_okq (⟨"ElevenYoghurtsModel", "marksAs", "(II)I"⟩, 22) := ⟨⟨by decide +kernel, by decide +kernel⟩, List.mem_of_getElem? (i := 867) (by decide +kernel), List.mem_of_getElem? (i := 1278) (by decide +kernel), List.mem_of_getElem? (i := 1279) (by decide +kernel)⟩
def lw_privs_4 : List (MethodName × Nat) := [(⟨"ElevenYoghurtsModel", "canGo", "(I)Z"⟩, 22), (⟨"ElevenYoghurtsModel", "drawn", "(III)I"⟩, 22), (⟨"ElevenYoghurtsModel", "more", "(II)V"⟩, 22), (⟨"ElevenYoghurtsModel", "drawnHour", "()I"⟩, 22), (⟨"ElevenYoghurtsModel", "draw", "()I"⟩, 22), (⟨"ElevenYoghurtsModel", "hourGoes", "()V"⟩, 22), (⟨"ElevenYoghurtsModel", "othersWant", "(I)I"⟩, 22), (⟨"ElevenYoghurtsModel", "isPeace", "(I)Z"⟩, 22), (⟨"ElevenYoghurtsModel", "robs", "(I)I"⟩, 22), (⟨"ElevenYoghurtsModel", "lacks", "(I)I"⟩, 22), (⟨"ElevenYoghurtsModel", "layDown", "()V"⟩, 22), (⟨"ElevenYoghurtsModel", "layBack", "()V"⟩, 22), (⟨"ElevenYoghurtsModel", "kindNow", "()I"⟩, 22), (⟨"ElevenYoghurtsModel", "sniffsAs", "(II)I"⟩, 22), (⟨"ElevenYoghurtsModel", "begins", "(I)V"⟩, 22), (⟨"ElevenYoghurtsModel", "marksAs", "(II)I"⟩, 22)]
theorem lw_r4 : ∀ q ∈ lw_privs_4, lw_okq q := List.forall_mem_cons.mpr ⟨lw_p48, List.forall_mem_cons.mpr ⟨lw_p49, List.forall_mem_cons.mpr ⟨lw_p50, List.forall_mem_cons.mpr ⟨lw_p51, List.forall_mem_cons.mpr ⟨lw_p52, List.forall_mem_cons.mpr ⟨lw_p53, List.forall_mem_cons.mpr ⟨lw_p54, List.forall_mem_cons.mpr ⟨lw_p55, List.forall_mem_cons.mpr ⟨lw_p56, List.forall_mem_cons.mpr ⟨lw_p57, List.forall_mem_cons.mpr ⟨lw_p58, List.forall_mem_cons.mpr ⟨lw_p59, List.forall_mem_cons.mpr ⟨lw_p60, List.forall_mem_cons.mpr ⟨lw_p61, List.forall_mem_cons.mpr ⟨lw_p62, List.forall_mem_cons.mpr ⟨lw_p63, fun _ h => absurd h List.not_mem_nil⟩⟩⟩⟩⟩⟩⟩⟩⟩⟩⟩⟩⟩⟩⟩⟩
theorem lw_p64 : lw_okq (⟨"ElevenYoghurtsModel", "mNow", "()I"⟩, 22) := ⟨⟨by decide +kernel, by decide +kernel⟩, List.mem_of_getElem? (i := 867) (by decide +kernel), List.mem_of_getElem? (i := 1282) (by decide +kernel), List.mem_of_getElem? (i := 1283) (by decide +kernel)⟩
theorem lw_p65 : lw_okq (⟨"ElevenYoghurtsModel", "swearsAs", "(II)I"⟩, 22) := ⟨⟨by decide +kernel, by decide +kernel⟩, List.mem_of_getElem? (i := 867) (by decide +kernel), List.mem_of_getElem? (i := 1286) (by decide +kernel), List.mem_of_getElem? (i := 1287) (by decide +kernel)⟩
theorem lw_p66 : lw_okq (⟨"ElevenYoghurtsModel", "partsAs", "(II)I"⟩, 22) := ⟨⟨by decide +kernel, by decide +kernel⟩, List.mem_of_getElem? (i := 867) (by decide +kernel), List.mem_of_getElem? (i := 1290) (by decide +kernel), List.mem_of_getElem? (i := 1291) (by decide +kernel)⟩
def lw_privs_5 : List (MethodName × Nat) := [(⟨"ElevenYoghurtsModel", "mNow", "()I"⟩, 22), (⟨"ElevenYoghurtsModel", "swearsAs", "(II)I"⟩, 22), (⟨"ElevenYoghurtsModel", "partsAs", "(II)I"⟩, 22)]
theorem lw_r5 : ∀ q ∈ lw_privs_5, lw_okq q := List.forall_mem_cons.mpr ⟨lw_p64, List.forall_mem_cons.mpr ⟨lw_p65, List.forall_mem_cons.mpr ⟨lw_p66, fun _ h => absurd h List.not_mem_nil⟩⟩⟩
def lw_privs : List (MethodName × Nat) := lw_privs_1 ++ (lw_privs_2 ++ (lw_privs_3 ++ (lw_privs_4 ++ (lw_privs_5))))
def lw_tbl : List Cond := k2_sels lw_privs ++ tables_1
theorem lw_privs_ok : ∀ q ∈ lw_privs, lw_okq q := by
  show ∀ q ∈ lw_privs_1 ++ (lw_privs_2 ++ (lw_privs_3 ++ (lw_privs_4 ++ (lw_privs_5)))), lw_okq q
  exact List.forall_mem_append.mpr ⟨lw_r1, List.forall_mem_append.mpr ⟨lw_r2, List.forall_mem_append.mpr ⟨lw_r3, List.forall_mem_append.mpr ⟨lw_r4, lw_r5⟩⟩⟩⟩
def RX0 : String := "ElevenYoghurts$Fridge"
def TX0 : u_T := fun k => match k with
  | 0 => ("ElevenYoghurts$Fridge", "people", "[LElevenYoghurts$Person;", true)
  | 1 => ("ElevenYoghurts$Fridge", "things", "[LElevenYoghurts$Thing;", true)
  | 2 => ("ElevenYoghurts$Fridge", "appealLaw", "LElevenYoghurts$Law;", true)
  | 3 => ("ElevenYoghurts$Fridge", "guardLaw", "LElevenYoghurts$Law;", true)
  | 4 => ("ElevenYoghurts$Fridge", "tape", "[B", true)
  | 5 => ("ElevenYoghurts$Fridge", "waiting", "[I", true)
  | 6 => ("ElevenYoghurts$Fridge", "peopleCount", "I", false)
  | 7 => ("ElevenYoghurts$Fridge", "thingCount", "I", false)
  | 8 => ("ElevenYoghurts$Fridge", "tapeLength", "I", false)
  | 9 => ("ElevenYoghurts$Fridge", "waitingCount", "I", false)
  | 10 => ("ElevenYoghurts$Fridge", "hour", "I", false)
  | 11 => ("ElevenYoghurts$Fridge", "stolen", "I", false)
  | 12 => ("ElevenYoghurts$Fridge", "eaten", "I", false)
  | 13 => ("ElevenYoghurts$Fridge", "thrown", "I", false)
  | _ => ("ElevenYoghurts$Fridge", "z", "I", false)
def tyX0 : Nat → FieldType := fun k => match k with
  | 0 => .array (.object "ElevenYoghurts$Person")
  | 1 => .array (.object "ElevenYoghurts$Thing")
  | 2 => .object "ElevenYoghurts$Law"
  | 3 => .object "ElevenYoghurts$Law"
  | 4 => .array .byte
  | 5 => .array .int
  | 6 => .int
  | 7 => .int
  | 8 => .int
  | 9 => .int
  | 10 => .int
  | 11 => .int
  | 12 => .int
  | 13 => .int
  | _ => .int
abbrev wsX00 : List Cond := u_ws RX0 TX0 15
theorem nmX0 : ∀ a, a < 15 → ∀ b, b < 15 → a ≠ b → (TX0 a).2.1 ≠ (TX0 b).2.1 := by decide +kernel
theorem tyX0_ok : ∀ k, k < 15 → parseFieldDescriptor (TX0 k).2.2.1 = some (tyX0 k) := by decide +kernel
abbrev cX0_init : ByteArray := prog_2_method_1_code
def yX0_init : MethodName := ⟨RX0, "<init>", "()V"⟩
abbrev cX0_copyFrom : ByteArray := prog_2_method_2_code
def yX0_copyFrom : MethodName := ⟨RX0, "copyFrom", "(LElevenYoghurts$Fridge;)V"⟩
abbrev cX0_personAt : ByteArray := prog_2_method_3_code
def yX0_personAt : MethodName := ⟨RX0, "personAt", "(I)LElevenYoghurts$Person;"⟩
abbrev cX0_thingAt : ByteArray := prog_2_method_4_code
def yX0_thingAt : MethodName := ⟨RX0, "thingAt", "(I)LElevenYoghurts$Thing;"⟩
abbrev cX0_lawOf : ByteArray := prog_2_method_5_code
def yX0_lawOf : MethodName := ⟨RX0, "lawOf", "(I)LElevenYoghurts$Law;"⟩
abbrev cX0_inside : ByteArray := prog_2_method_6_code
def yX0_inside : MethodName := ⟨RX0, "inside", "()I"⟩
abbrev cX0_insideOf : ByteArray := prog_2_method_7_code
def yX0_insideOf : MethodName := ⟨RX0, "insideOf", "(LElevenYoghurts$Person;)I"⟩
abbrev cX0_appealOf : ByteArray := prog_2_method_8_code
def yX0_appealOf : MethodName := ⟨RX0, "appealOf", "(LElevenYoghurts$Thing;)I"⟩
abbrev cX0_pullOf : ByteArray := prog_2_method_9_code
def yX0_pullOf : MethodName := ⟨RX0, "pullOf", "(LElevenYoghurts$Person;LElevenYoghurts$Thing;I)I"⟩
abbrev cX0_wantedBy : ByteArray := prog_2_method_10_code
def yX0_wantedBy : MethodName := ⟨RX0, "wantedBy", "(LElevenYoghurts$Person;I)I"⟩
abbrev cX0_wantersOf : ByteArray := prog_2_method_11_code
def yX0_wantersOf : MethodName := ⟨RX0, "wantersOf", "(II)I"⟩
abbrev cX0_robbedBy : ByteArray := prog_2_method_12_code
def yX0_robbedBy : MethodName := ⟨RX0, "robbedBy", "(I)I"⟩
abbrev cX0_firstToBeStolen : ByteArray := prog_2_method_13_code
def yX0_firstToBeStolen : MethodName := ⟨RX0, "firstToBeStolen", "()I"⟩
abbrev cX0_takenBy : ByteArray := prog_2_method_14_code
def yX0_takenBy : MethodName := ⟨RX0, "takenBy", "(LElevenYoghurts$Person;I)I"⟩
abbrev cX0_eat : ByteArray := prog_2_method_15_code
def yX0_eat : MethodName := ⟨RX0, "eat", "(LElevenYoghurts$Person;LElevenYoghurts$Thing;)V"⟩
abbrev cX0_throwOut : ByteArray := prog_2_method_16_code
def yX0_throwOut : MethodName := ⟨RX0, "throwOut", "(I)I"⟩
abbrev cX0_drawnBelow : ByteArray := prog_2_method_17_code
def yX0_drawnBelow : MethodName := ⟨RX0, "drawnBelow", "(I)I"⟩
abbrev cX0_hourByDraws : ByteArray := prog_2_method_18_code
def yX0_hourByDraws : MethodName := ⟨RX0, "hourByDraws", "()I"⟩
abbrev cX0_hourGoes : ByteArray := prog_2_method_19_code
def yX0_hourGoes : MethodName := ⟨RX0, "hourGoes", "()V"⟩
def RX1 : String := "ElevenYoghurts$Law"
def TX1 : u_T := fun k => match k with
  | 0 => ("ElevenYoghurts$Law", "use", "I", true)
  | 1 => ("ElevenYoghurts$Law", "signs", "[I", true)
  | 2 => ("ElevenYoghurts$Law", "values", "[I", true)
  | 3 => ("ElevenYoghurts$Law", "stack", "[I", true)
  | _ => ("ElevenYoghurts$Law", "length", "I", false)
def tyX1 : Nat → FieldType := fun k => match k with
  | 0 => .int
  | 1 => .array .int
  | 2 => .array .int
  | 3 => .array .int
  | _ => .int
abbrev wsX10 : List Cond := u_ws RX1 TX1 5
theorem nmX1 : ∀ a, a < 5 → ∀ b, b < 5 → a ≠ b → (TX1 a).2.1 ≠ (TX1 b).2.1 := by decide +kernel
theorem tyX1_ok : ∀ k, k < 5 → parseFieldDescriptor (TX1 k).2.2.1 = some (tyX1 k) := by decide +kernel
abbrev cX1_init : ByteArray := prog_3_method_1_code
def yX1_init : MethodName := ⟨RX1, "<init>", "(I)V"⟩
abbrev cX1_clear : ByteArray := prog_3_method_2_code
def yX1_clear : MethodName := ⟨RX1, "clear", "()V"⟩
abbrev cX1_hasText : ByteArray := prog_3_method_3_code
def yX1_hasText : MethodName := ⟨RX1, "hasText", "()Z"⟩
abbrev cX1_copyFrom : ByteArray := prog_3_method_4_code
def yX1_copyFrom : MethodName := ⟨RX1, "copyFrom", "(LElevenYoghurts$Law;)V"⟩
abbrev cX1_append : ByteArray := prog_3_method_5_code
def yX1_append : MethodName := ⟨RX1, "append", "(II)V"⟩
abbrev cX1_gives : ByteArray := prog_3_method_6_code
def yX1_gives : MethodName := ⟨RX1, "gives", "(III)I"⟩
abbrev cX1_workedOut : ByteArray := prog_3_method_7_code
def yX1_workedOut : MethodName := ⟨RX1, "workedOut", "(III)I"⟩
abbrev cX1_named : ByteArray := prog_3_method_8_code
def yX1_named : MethodName := ⟨RX1, "named", "(IIII)I"⟩
abbrev cX1_joined : ByteArray := prog_3_method_9_code
def yX1_joined : MethodName := ⟨RX1, "joined", "(III)I"⟩
def RX2 : String := "ElevenYoghurts$Person"
def TX2 : u_T := fun k => match k with
  | 0 => ("ElevenYoghurts$Person", "k", "I", true)
  | 1 => ("ElevenYoghurts$Person", "kind", "I", false)
  | 2 => ("ElevenYoghurts$Person", "m", "I", false)
  | 3 => ("ElevenYoghurts$Person", "hunger", "I", false)
  | 4 => ("ElevenYoghurts$Person", "robbed", "I", false)
  | _ => ("ElevenYoghurts$Person", "suspect", "I", false)
def tyX2 : Nat → FieldType := fun k => match k with
  | 0 => .int
  | 1 => .int
  | 2 => .int
  | 3 => .int
  | 4 => .int
  | _ => .int
abbrev wsX20 : List Cond := u_ws RX2 TX2 6
theorem nmX2 : ∀ a, a < 6 → ∀ b, b < 6 → a ≠ b → (TX2 a).2.1 ≠ (TX2 b).2.1 := by decide +kernel
theorem tyX2_ok : ∀ k, k < 6 → parseFieldDescriptor (TX2 k).2.2.1 = some (tyX2 k) := by decide +kernel
abbrev cX2_init : ByteArray := prog_4_method_1_code
def yX2_init : MethodName := ⟨RX2, "<init>", "(I)V"⟩
abbrev cX2_arrive : ByteArray := prog_4_method_2_code
def yX2_arrive : MethodName := ⟨RX2, "arrive", "(I)V"⟩
abbrev cX2_turnInto : ByteArray := prog_4_method_3_code
def yX2_turnInto : MethodName := ⟨RX2, "turnInto", "(I)V"⟩
abbrev cX2_copyFrom : ByteArray := prog_4_method_4_code
def yX2_copyFrom : MethodName := ⟨RX2, "copyFrom", "(LElevenYoghurts$Person;)V"⟩
abbrev cX2_isOfKind : ByteArray := prog_4_method_5_code
def yX2_isOfKind : MethodName := ⟨RX2, "isOfKind", "(I)Z"⟩
abbrev cX2_owns : ByteArray := prog_4_method_6_code
def yX2_owns : MethodName := ⟨RX2, "owns", "(LElevenYoghurts$Thing;)Z"⟩
abbrev cX2_urgeFor : ByteArray := prog_4_method_7_code
def yX2_urgeFor : MethodName := ⟨RX2, "urgeFor", "(LElevenYoghurts$Thing;I)I"⟩
abbrev cX2_hungerForAnHour : ByteArray := prog_4_method_8_code
def yX2_hungerForAnHour : MethodName := ⟨RX2, "hungerForAnHour", "()V"⟩
abbrev cX2_loseOne : ByteArray := prog_4_method_9_code
def yX2_loseOne : MethodName := ⟨RX2, "loseOne", "()V"⟩
def RX3 : String := "ElevenYoghurts$Reader"
def TX3 : u_T := fun k => match k with
  | 0 => ("ElevenYoghurts$Reader", "draft", "LElevenYoghurts$Law;", true)
  | 1 => ("ElevenYoghurts$Reader", "tape", "[B", false)
  | 2 => ("ElevenYoghurts$Reader", "length", "I", false)
  | 3 => ("ElevenYoghurts$Reader", "at", "I", false)
  | _ => ("ElevenYoghurts$Reader", "names", "Ljava/lang/String;", false)
def tyX3 : Nat → FieldType := fun k => match k with
  | 0 => .object "ElevenYoghurts$Law"
  | 1 => .array .byte
  | 2 => .int
  | 3 => .int
  | _ => .object "java/lang/String"
abbrev wsX30 : List Cond := u_ws RX3 TX3 5
theorem nmX3 : ∀ a, a < 5 → ∀ b, b < 5 → a ≠ b → (TX3 a).2.1 ≠ (TX3 b).2.1 := by decide +kernel
theorem tyX3_ok : ∀ k, k < 5 → parseFieldDescriptor (TX3 k).2.2.1 = some (tyX3 k) := by decide +kernel
abbrev cX3_init : ByteArray := prog_5_method_1_code
def yX3_init : MethodName := ⟨RX3, "<init>", "()V"⟩
abbrev cX3_faultOf : ByteArray := prog_5_method_2_code
def yX3_faultOf : MethodName := ⟨RX3, "faultOf", "([BII)I"⟩
abbrev cX3_readsChain : ByteArray := prog_5_method_3_code
def yX3_readsChain : MethodName := ⟨RX3, "readsChain", "(II)Z"⟩
abbrev cX3_readsOperand : ByteArray := prog_5_method_4_code
def yX3_readsOperand : MethodName := ⟨RX3, "readsOperand", "(I)Z"⟩
abbrev cX3_readsDenied : ByteArray := prog_5_method_5_code
def yX3_readsDenied : MethodName := ⟨RX3, "readsDenied", "(I)Z"⟩
abbrev cX3_readsClosed : ByteArray := prog_5_method_6_code
def yX3_readsClosed : MethodName := ⟨RX3, "readsClosed", "(I)Z"⟩
abbrev cX3_readNumber : ByteArray := prog_5_method_7_code
def yX3_readNumber : MethodName := ⟨RX3, "readNumber", "()V"⟩
abbrev cX3_levelOf : ByteArray := prog_5_method_8_code
def yX3_levelOf : MethodName := ⟨RX3, "levelOf", "(I)I"⟩
def RX4 : String := "ElevenYoghurts$Sheet"
def TX4 : u_T := fun k => match k with
  | 0 => ("ElevenYoghurts$Sheet", "numbers", "[I", true)
  | 1 => ("ElevenYoghurts$Sheet", "bits", "I", false)
  | _ => ("ElevenYoghurts$Sheet", "size", "I", false)
def tyX4 : Nat → FieldType := fun k => match k with
  | 0 => .array .int
  | 1 => .int
  | _ => .int
abbrev wsX40 : List Cond := u_ws RX4 TX4 3
theorem nmX4 : ∀ a, a < 3 → ∀ b, b < 3 → a ≠ b → (TX4 a).2.1 ≠ (TX4 b).2.1 := by decide +kernel
theorem tyX4_ok : ∀ k, k < 3 → parseFieldDescriptor (TX4 k).2.2.1 = some (tyX4 k) := by decide +kernel
abbrev cX4_init : ByteArray := prog_6_method_1_code
def yX4_init : MethodName := ⟨RX4, "<init>", "()V"⟩
abbrev cX4_isMissing : ByteArray := prog_6_method_2_code
def yX4_isMissing : MethodName := ⟨RX4, "isMissing", "()Z"⟩
abbrev cX4_lay : ByteArray := prog_6_method_3_code
def yX4_lay : MethodName := ⟨RX4, "lay", "(II)V"⟩
abbrev cX4_holds : ByteArray := prog_6_method_4_code
def yX4_holds : MethodName := ⟨RX4, "holds", "(II)Z"⟩
abbrev cX4_write : ByteArray := prog_6_method_5_code
def yX4_write : MethodName := ⟨RX4, "write", "(II)V"⟩
def RX5 : String := "ElevenYoghurts$Thing"
def TX5 : u_T := fun k => match k with
  | 0 => ("ElevenYoghurts$Thing", "owner", "I", false)
  | 1 => ("ElevenYoghurts$Thing", "label", "I", false)
  | 2 => ("ElevenYoghurts$Thing", "look", "I", false)
  | 3 => ("ElevenYoghurts$Thing", "age", "I", false)
  | 4 => ("ElevenYoghurts$Thing", "locked", "I", false)
  | 5 => ("ElevenYoghurts$Thing", "inside", "Z", false)
  | _ => ("ElevenYoghurts$Thing", "taker", "I", false)
def tyX5 : Nat → FieldType := fun k => match k with
  | 0 => .int
  | 1 => .int
  | 2 => .int
  | 3 => .int
  | 4 => .int
  | 5 => .boolean
  | _ => .int
abbrev wsX50 : List Cond := u_ws RX5 TX5 7
theorem nmX5 : ∀ a, a < 7 → ∀ b, b < 7 → a ≠ b → (TX5 a).2.1 ≠ (TX5 b).2.1 := by decide +kernel
theorem tyX5_ok : ∀ k, k < 7 → parseFieldDescriptor (TX5 k).2.2.1 = some (tyX5 k) := by decide +kernel
abbrev cX5_init : ByteArray := prog_7_method_1_code
def yX5_init : MethodName := ⟨RX5, "<init>", "()V"⟩
abbrev cX5_arrive : ByteArray := prog_7_method_2_code
def yX5_arrive : MethodName := ⟨RX5, "arrive", "(IIII)V"⟩
abbrev cX5_copyFrom : ByteArray := prog_7_method_3_code
def yX5_copyFrom : MethodName := ⟨RX5, "copyFrom", "(LElevenYoghurts$Thing;)V"⟩
abbrev cX5_canBeTaken : ByteArray := prog_7_method_4_code
def yX5_canBeTaken : MethodName := ⟨RX5, "canBeTaken", "()Z"⟩
abbrev cX5_leave : ByteArray := prog_7_method_5_code
def yX5_leave : MethodName := ⟨RX5, "leave", "(I)V"⟩
abbrev cX5_comeBack : ByteArray := prog_7_method_6_code
def yX5_comeBack : MethodName := ⟨RX5, "comeBack", "()V"⟩
abbrev cX5_grow : ByteArray := prog_7_method_7_code
def yX5_grow : MethodName := ⟨RX5, "grow", "()V"⟩
def RX6 : String := "ElevenYoghurts$Voices"
def TX6 : u_T := fun k => match k with
  | 0 => ("ElevenYoghurts$Voices", "trace", "[I", true)
  | 1 => ("ElevenYoghurts$Voices", "traceLength", "I", false)
  | 2 => ("ElevenYoghurts$Voices", "answer", "I", false)
  | 3 => ("ElevenYoghurts$Voices", "parted", "Z", false)
  | 4 => ("ElevenYoghurts$Voices", "k", "I", false)
  | 5 => ("ElevenYoghurts$Voices", "m", "I", false)
  | _ => ("ElevenYoghurts$Voices", "kind", "I", false)
def tyX6 : Nat → FieldType := fun k => match k with
  | 0 => .array .int
  | 1 => .int
  | 2 => .int
  | 3 => .boolean
  | 4 => .int
  | 5 => .int
  | _ => .int
abbrev wsX60 : List Cond := u_ws RX6 TX6 7
theorem nmX6 : ∀ a, a < 7 → ∀ b, b < 7 → a ≠ b → (TX6 a).2.1 ≠ (TX6 b).2.1 := by decide +kernel
theorem tyX6_ok : ∀ k, k < 7 → parseFieldDescriptor (TX6 k).2.2.1 = some (tyX6 k) := by decide +kernel
abbrev cX6_init : ByteArray := prog_8_method_1_code
def yX6_init : MethodName := ⟨RX6, "<init>", "()V"⟩
abbrev cX6_speaks : ByteArray := prog_8_method_2_code
def yX6_speaks : MethodName := ⟨RX6, "speaks", "(LElevenYoghurts$Person;II)Z"⟩
abbrev cX6_say : ByteArray := prog_8_method_3_code
def yX6_say : MethodName := ⟨RX6, "say", "(IIII)I"⟩
abbrev cX6_bearerOf : ByteArray := prog_8_method_4_code
def yX6_bearerOf : MethodName := ⟨RX6, "bearerOf", "(II)I"⟩
abbrev cX6_begin : ByteArray := prog_8_method_5_code
def yX6_begin : MethodName := ⟨RX6, "begin", "(I)V"⟩
abbrev cX6_partedIn : ByteArray := prog_8_method_6_code
def yX6_partedIn : MethodName := ⟨RX6, "partedIn", "(II)I"⟩
def RX7 : String := "ElevenYoghurts"
def TX7 : u_T := fun k => match k with
  | 0 => ("ElevenYoghurts", "now", "LElevenYoghurts$Fridge;", true)
  | 1 => ("ElevenYoghurts", "kept", "LElevenYoghurts$Fridge;", true)
  | 2 => ("ElevenYoghurts", "thought", "LElevenYoghurts$Fridge;", true)
  | 3 => ("ElevenYoghurts", "reader", "LElevenYoghurts$Reader;", true)
  | 4 => ("ElevenYoghurts", "voices", "LElevenYoghurts$Voices;", true)
  | 5 => ("ElevenYoghurts", "sheets", "[LElevenYoghurts$Sheet;", true)
  | 6 => ("ElevenYoghurts", "refused", "[I", true)
  | 7 => ("ElevenYoghurts", "reached", "[I", true)
  | _ => ("ElevenYoghurts", "timesKept", "I", false)
def tyX7 : Nat → FieldType := fun k => match k with
  | 0 => .object "ElevenYoghurts$Fridge"
  | 1 => .object "ElevenYoghurts$Fridge"
  | 2 => .object "ElevenYoghurts$Fridge"
  | 3 => .object "ElevenYoghurts$Reader"
  | 4 => .object "ElevenYoghurts$Voices"
  | 5 => .array (.object "ElevenYoghurts$Sheet")
  | 6 => .array .int
  | 7 => .array .int
  | _ => .int
abbrev wsX70 : List Cond := u_ws RX7 TX7 9
theorem nmX7 : ∀ a, a < 9 → ∀ b, b < 9 → a ≠ b → (TX7 a).2.1 ≠ (TX7 b).2.1 := by decide +kernel
theorem tyX7_ok : ∀ k, k < 9 → parseFieldDescriptor (TX7 k).2.2.1 = some (tyX7 k) := by decide +kernel
abbrev cX7_init : ByteArray := prog_1_method_1_code
def yX7_init : MethodName := ⟨RX7, "<init>", "()V"⟩
abbrev cX7_person : ByteArray := prog_1_method_2_code
def yX7_person : MethodName := ⟨RX7, "person", "(I)I"⟩
abbrev cX7_personIs : ByteArray := prog_1_method_3_code
def yX7_personIs : MethodName := ⟨RX7, "personIs", "(II)I"⟩
abbrev cX7_become : ByteArray := prog_1_method_4_code
def yX7_become : MethodName := ⟨RX7, "become", "(II)I"⟩
abbrev cX7_as : ByteArray := prog_1_method_5_code
def yX7_as : MethodName := ⟨RX7, "as", "(II)I"⟩
abbrev cX7_feel : ByteArray := prog_1_method_6_code
def yX7_feel : MethodName := ⟨RX7, "feel", "(III)I"⟩
abbrev cX7_thing : ByteArray := prog_1_method_7_code
def yX7_thing : MethodName := ⟨RX7, "thing", "(IIII)I"⟩
abbrev cX7_thingIs : ByteArray := prog_1_method_8_code
def yX7_thingIs : MethodName := ⟨RX7, "thingIs", "(II)I"⟩
abbrev cX7_mark : ByteArray := prog_1_method_9_code
def yX7_mark : MethodName := ⟨RX7, "mark", "(III)I"⟩
abbrev cX7_anew : ByteArray := prog_1_method_10_code
def yX7_anew : MethodName := ⟨RX7, "anew", "(I)I"⟩
abbrev cX7_feed : ByteArray := prog_1_method_11_code
def yX7_feed : MethodName := ⟨RX7, "feed", "(JI)I"⟩
abbrev cX7_text : ByteArray := prog_1_method_12_code
def yX7_text : MethodName := ⟨RX7, "text", "(I)I"⟩
abbrev cX7_untell : ByteArray := prog_1_method_13_code
def yX7_untell : MethodName := ⟨RX7, "untell", "(I)I"⟩
abbrev cX7_law : ByteArray := prog_1_method_14_code
def yX7_law : MethodName := ⟨RX7, "law", "(IIII)I"⟩
abbrev cX7_urge : ByteArray := prog_1_method_15_code
def yX7_urge : MethodName := ⟨RX7, "urge", "(II)I"⟩
abbrev cX7_guard : ByteArray := prog_1_method_16_code
def yX7_guard : MethodName := ⟨RX7, "guard", "(II)I"⟩
abbrev cX7_comes : ByteArray := prog_1_method_17_code
def yX7_comes : MethodName := ⟨RX7, "comes", "(II)I"⟩
abbrev cX7_hours : ByteArray := prog_1_method_18_code
def yX7_hours : MethodName := ⟨RX7, "hours", "(I)I"⟩
abbrev cX7_friday : ByteArray := prog_1_method_19_code
def yX7_friday : MethodName := ⟨RX7, "friday", "(I)I"⟩
abbrev cX7_seed : ByteArray := prog_1_method_20_code
def yX7_seed : MethodName := ⟨RX7, "seed", "(I)I"⟩
abbrev cX7_wants : ByteArray := prog_1_method_21_code
def yX7_wants : MethodName := ⟨RX7, "wants", "(III)I"⟩
abbrev cX7_trap : ByteArray := prog_1_method_22_code
def yX7_trap : MethodName := ⟨RX7, "trap", "(II)I"⟩
abbrev cX7_safest : ByteArray := prog_1_method_23_code
def yX7_safest : MethodName := ⟨RX7, "safest", "(I)I"⟩
abbrev cX7_lock : ByteArray := prog_1_method_24_code
def yX7_lock : MethodName := ⟨RX7, "lock", "(I)I"⟩
abbrev cX7_round : ByteArray := prog_1_method_25_code
def yX7_round : MethodName := ⟨RX7, "round", "(II)I"⟩
abbrev cX7_odds : ByteArray := prog_1_method_26_code
def yX7_odds : MethodName := ⟨RX7, "odds", "(II)I"⟩
abbrev cX7_who : ByteArray := prog_1_method_27_code
def yX7_who : MethodName := ⟨RX7, "who", "(I)I"⟩
abbrev cX7_lost : ByteArray := prog_1_method_28_code
def yX7_lost : MethodName := ⟨RX7, "lost", "(II)I"⟩
abbrev cX7_oldest : ByteArray := prog_1_method_29_code
def yX7_oldest : MethodName := ⟨RX7, "oldest", "()I"⟩
abbrev cX7_voice : ByteArray := prog_1_method_30_code
def yX7_voice : MethodName := ⟨RX7, "voice", "(III)I"⟩
abbrev cX7_body : ByteArray := prog_1_method_31_code
def yX7_body : MethodName := ⟨RX7, "body", "(I)I"⟩
abbrev cX7_sheet : ByteArray := prog_1_method_32_code
def yX7_sheet : MethodName := ⟨RX7, "sheet", "(III)I"⟩
abbrev cX7_put : ByteArray := prog_1_method_33_code
def yX7_put : MethodName := ⟨RX7, "put", "(III)I"⟩
abbrev cX7_move : ByteArray := prog_1_method_34_code
def yX7_move : MethodName := ⟨RX7, "move", "(IIIII)I"⟩
abbrev cX7_labels : ByteArray := prog_1_method_35_code
def yX7_labels : MethodName := ⟨RX7, "labels", "(I)I"⟩
abbrev cX7_judge : ByteArray := prog_1_method_36_code
def yX7_judge : MethodName := ⟨RX7, "judge", "(I)I"⟩
abbrev cX7_image : ByteArray := prog_1_method_37_code
def yX7_image : MethodName := ⟨RX7, "image", "()I"⟩
abbrev cX7_restore : ByteArray := prog_1_method_38_code
def yX7_restore : MethodName := ⟨RX7, "restore", "()I"⟩
abbrev cX7_tell : ByteArray := prog_1_method_39_code
def yX7_tell : MethodName := ⟨RX7, "tell", "(I)I"⟩
abbrev cX7_check : ByteArray := prog_1_method_40_code
def yX7_check : MethodName := ⟨RX7, "check", "()I"⟩
abbrev cX7_count : ByteArray := prog_1_method_41_code
def yX7_count : MethodName := ⟨RX7, "count", "(I)I"⟩
abbrev cX7_told : ByteArray := prog_1_method_42_code
def yX7_told : MethodName := ⟨RX7, "told", "(I)I"⟩
abbrev cX7_refuse : ByteArray := prog_1_method_43_code
def yX7_refuse : MethodName := ⟨RX7, "refuse", "(I)I"⟩
abbrev cX7_isIn : ByteArray := prog_1_method_44_code
def yX7_isIn : MethodName := ⟨RX7, "isIn", "(III)Z"⟩
abbrev cX7_isUse : ByteArray := prog_1_method_45_code
def yX7_isUse : MethodName := ⟨RX7, "isUse", "(I)Z"⟩
abbrev cX7_isKindAndNumber : ByteArray := prog_1_method_46_code
def yX7_isKindAndNumber : MethodName := ⟨RX7, "isKindAndNumber", "(I)Z"⟩
abbrev cX7_canFeel : ByteArray := prog_1_method_47_code
def yX7_canFeel : MethodName := ⟨RX7, "canFeel", "(LElevenYoghurts$Person;II)Z"⟩
abbrev cX7_sheetAt : ByteArray := prog_1_method_48_code
def yX7_sheetAt : MethodName := ⟨RX7, "sheetAt", "(I)LElevenYoghurts$Sheet;"⟩
abbrev cX7_othersWanting : ByteArray := prog_1_method_49_code
def yX7_othersWanting : MethodName := ⟨RX7, "othersWanting", "(II)I"⟩
abbrev cX7_locksForPeace : ByteArray := prog_1_method_50_code
def yX7_locksForPeace : MethodName := ⟨RX7, "locksForPeace", "()I"⟩
abbrev cX7_greatestCommon : ByteArray := prog_1_method_51_code
def yX7_greatestCommon : MethodName := ⟨RX7, "greatestCommon", "(II)I"⟩
abbrev cX7_wouldTake : ByteArray := prog_1_method_52_code
def yX7_wouldTake : MethodName := ⟨RX7, "wouldTake", "(ILElevenYoghurts$Sheet;)Z"⟩
def RX8 : String := "ElevenYoghurtsModel"
def TX8 : u_T := fun k => match k with
  | 0 => ("ElevenYoghurtsModel", "s", "[I", true)
  | 1 => ("ElevenYoghurtsModel", "kept", "[I", true)
  | 2 => ("ElevenYoghurtsModel", "laid", "[I", true)
  | 3 => ("ElevenYoghurtsModel", "images", "I", false)
  | 4 => ("ElevenYoghurtsModel", "errors", "[I", true)
  | 5 => ("ElevenYoghurtsModel", "at", "I", false)
  | 6 => ("ElevenYoghurtsModel", "open", "I", false)
  | 7 => ("ElevenYoghurtsModel", "steps", "I", false)
  | 8 => ("ElevenYoghurtsModel", "use", "I", false)
  | 9 => ("ElevenYoghurtsModel", "step", "[I", true)
  | 10 => ("ElevenYoghurtsModel", "named", "[I", true)
  | 11 => ("ElevenYoghurtsModel", "pile", "[I", true)
  | 12 => ("ElevenYoghurtsModel", "draws1", "[I", true)
  | 13 => ("ElevenYoghurtsModel", "places", "[I", true)
  | 14 => ("ElevenYoghurtsModel", "traced", "I", false)
  | 15 => ("ElevenYoghurtsModel", "trace", "[I", true)
  | 16 => ("ElevenYoghurtsModel", "speaks", "I", false)
  | 17 => ("ElevenYoghurtsModel", "isParted", "Z", false)
  | 18 => ("ElevenYoghurtsModel", "bits", "[I", true)
  | 19 => ("ElevenYoghurtsModel", "sizes", "[I", true)
  | 20 => ("ElevenYoghurtsModel", "number", "[I", true)
  | _ => ("ElevenYoghurtsModel", "aside", "[I", true)
def tyX8 : Nat → FieldType := fun k => match k with
  | 0 => .array .int
  | 1 => .array .int
  | 2 => .array .int
  | 3 => .int
  | 4 => .array .int
  | 5 => .int
  | 6 => .int
  | 7 => .int
  | 8 => .int
  | 9 => .array .int
  | 10 => .array .int
  | 11 => .array .int
  | 12 => .array .int
  | 13 => .array .int
  | 14 => .int
  | 15 => .array .int
  | 16 => .int
  | 17 => .boolean
  | 18 => .array .int
  | 19 => .array .int
  | 20 => .array .int
  | _ => .array .int
abbrev wsX80 : List Cond := u_ws RX8 TX8 22
theorem nmX8 : ∀ a, a < 22 → ∀ b, b < 22 → a ≠ b → (TX8 a).2.1 ≠ (TX8 b).2.1 := by decide +kernel
theorem tyX8_ok : ∀ k, k < 22 → parseFieldDescriptor (TX8 k).2.2.1 = some (tyX8 k) := by decide +kernel
abbrev cX8_init : ByteArray := prog_10_method_1_code
def yX8_init : MethodName := ⟨RX8, "<init>", "()V"⟩
abbrev cX8_error : ByteArray := prog_10_method_2_code
def yX8_error : MethodName := ⟨RX8, "error", "(I)I"⟩
abbrev cX8_in : ByteArray := prog_10_method_3_code
def yX8_in : MethodName := ⟨RX8, "in", "(III)Z"⟩
abbrev cX8_held : ByteArray := prog_10_method_4_code
def yX8_held : MethodName := ⟨RX8, "held", "(III)I"⟩
abbrev cX8_carry : ByteArray := prog_10_method_5_code
def yX8_carry : MethodName := ⟨RX8, "carry", "([I[I)V"⟩
abbrev cX8_layDown : ByteArray := prog_10_method_6_code
def yX8_layDown : MethodName := ⟨RX8, "layDown", "()V"⟩
abbrev cX8_layBack : ByteArray := prog_10_method_7_code
def yX8_layBack : MethodName := ⟨RX8, "layBack", "()V"⟩
abbrev cX8_isPerson : ByteArray := prog_10_method_8_code
def yX8_isPerson : MethodName := ⟨RX8, "isPerson", "(I)Z"⟩
abbrev cX8_isThing : ByteArray := prog_10_method_9_code
def yX8_isThing : MethodName := ⟨RX8, "isThing", "(I)Z"⟩
abbrev cX8_its : ByteArray := prog_10_method_10_code
def yX8_its : MethodName := ⟨RX8, "its", "(II)I"⟩
abbrev cX8_lays1 : ByteArray := prog_10_method_11_code
def yX8_lays1 : MethodName := ⟨RX8, "lays1", "(III)V"⟩
abbrev cX8_of : ByteArray := prog_10_method_12_code
def yX8_of : MethodName := ⟨RX8, "of", "(II)I"⟩
abbrev cX8_lays2 : ByteArray := prog_10_method_13_code
def yX8_lays2 : MethodName := ⟨RX8, "lays2", "(III)V"⟩
abbrev cX8_change1 : ByteArray := prog_10_method_14_code
def yX8_change1 : MethodName := ⟨RX8, "change1", "(II)I"⟩
abbrev cX8_isThere : ByteArray := prog_10_method_15_code
def yX8_isThere : MethodName := ⟨RX8, "isThere", "(I)Z"⟩
abbrev cX8_howMany : ByteArray := prog_10_method_16_code
def yX8_howMany : MethodName := ⟨RX8, "howMany", "()I"⟩
abbrev cX8_feed : ByteArray := prog_10_method_17_code
def yX8_feed : MethodName := ⟨RX8, "feed", "(JI)I"⟩
abbrev cX8_look : ByteArray := prog_10_method_18_code
def yX8_look : MethodName := ⟨RX8, "look", "()I"⟩
abbrev cX8_isName : ByteArray := prog_10_method_19_code
def yX8_isName : MethodName := ⟨RX8, "isName", "(I)Z"⟩
abbrev cX8_step1 : ByteArray := prog_10_method_20_code
def yX8_step1 : MethodName := ⟨RX8, "step1", "(II)V"⟩
abbrev cX8_whole : ByteArray := prog_10_method_21_code
def yX8_whole : MethodName := ⟨RX8, "whole", "()Z"⟩
abbrev cX8_both : ByteArray := prog_10_method_22_code
def yX8_both : MethodName := ⟨RX8, "both", "()Z"⟩
abbrev cX8_compared : ByteArray := prog_10_method_23_code
def yX8_compared : MethodName := ⟨RX8, "compared", "()Z"⟩
abbrev cX8_sum : ByteArray := prog_10_method_24_code
def yX8_sum : MethodName := ⟨RX8, "sum", "()Z"⟩
abbrev cX8_product : ByteArray := prog_10_method_25_code
def yX8_product : MethodName := ⟨RX8, "product", "()Z"⟩
abbrev cX8_opens : ByteArray := prog_10_method_26_code
def yX8_opens : MethodName := ⟨RX8, "opens", "()Z"⟩
abbrev cX8_one : ByteArray := prog_10_method_27_code
def yX8_one : MethodName := ⟨RX8, "one", "()Z"⟩
abbrev cX8_hasText : ByteArray := prog_10_method_28_code
def yX8_hasText : MethodName := ⟨RX8, "hasText", "(I)Z"⟩
abbrev cX8_text : ByteArray := prog_10_method_29_code
def yX8_text : MethodName := ⟨RX8, "text", "(I)I"⟩
abbrev cX8_untell : ByteArray := prog_10_method_30_code
def yX8_untell : MethodName := ⟨RX8, "untell", "(I)I"⟩
abbrev cX8_joined : ByteArray := prog_10_method_31_code
def yX8_joined : MethodName := ⟨RX8, "joined", "(III)I"⟩
abbrev cX8_worked : ByteArray := prog_10_method_32_code
def yX8_worked : MethodName := ⟨RX8, "worked", "(I)I"⟩
abbrev cX8_appealTold : ByteArray := prog_10_method_33_code
def yX8_appealTold : MethodName := ⟨RX8, "appealTold", "(III)I"⟩
abbrev cX8_guardTold : ByteArray := prog_10_method_34_code
def yX8_guardTold : MethodName := ⟨RX8, "guardTold", "(III)I"⟩
abbrev cX8_appeal : ByteArray := prog_10_method_35_code
def yX8_appeal : MethodName := ⟨RX8, "appeal", "(I)I"⟩
abbrev cX8_guardOf : ByteArray := prog_10_method_36_code
def yX8_guardOf : MethodName := ⟨RX8, "guardOf", "(II)I"⟩
abbrev cX8_asPerson : ByteArray := prog_10_method_37_code
def yX8_asPerson : MethodName := ⟨RX8, "asPerson", "(IZ)I"⟩
abbrev cX8_asTaker : ByteArray := prog_10_method_38_code
def yX8_asTaker : MethodName := ⟨RX8, "asTaker", "(IIZ)I"⟩
abbrev cX8_asAvenger : ByteArray := prog_10_method_39_code
def yX8_asAvenger : MethodName := ⟨RX8, "asAvenger", "(IIZ)I"⟩
abbrev cX8_urgeOf : ByteArray := prog_10_method_40_code
def yX8_urgeOf : MethodName := ⟨RX8, "urgeOf", "(II)I"⟩
abbrev cX8_drawn : ByteArray := prog_10_method_41_code
def yX8_drawn : MethodName := ⟨RX8, "drawn", "(III)I"⟩
abbrev cX8_canGo : ByteArray := prog_10_method_42_code
def yX8_canGo : MethodName := ⟨RX8, "canGo", "(I)Z"⟩
abbrev cX8_wanted : ByteArray := prog_10_method_43_code
def yX8_wanted : MethodName := ⟨RX8, "wanted", "(II)I"⟩
abbrev cX8_more : ByteArray := prog_10_method_44_code
def yX8_more : MethodName := ⟨RX8, "more", "(II)V"⟩
abbrev cX8_comesNow : ByteArray := prog_10_method_45_code
def yX8_comesNow : MethodName := ⟨RX8, "comesNow", "(II)I"⟩
abbrev cX8_hourGoes : ByteArray := prog_10_method_46_code
def yX8_hourGoes : MethodName := ⟨RX8, "hourGoes", "()V"⟩
abbrev cX8_draw : ByteArray := prog_10_method_47_code
def yX8_draw : MethodName := ⟨RX8, "draw", "()I"⟩
abbrev cX8_drawnHour : ByteArray := prog_10_method_48_code
def yX8_drawnHour : MethodName := ⟨RX8, "drawnHour", "()I"⟩
abbrev cX8_isKind : ByteArray := prog_10_method_49_code
def yX8_isKind : MethodName := ⟨RX8, "isKind", "(I)Z"⟩
abbrev cX8_person : ByteArray := prog_10_method_50_code
def yX8_person : MethodName := ⟨RX8, "person", "(I)I"⟩
abbrev cX8_hisThings : ByteArray := prog_10_method_51_code
def yX8_hisThings : MethodName := ⟨RX8, "hisThings", "(I)I"⟩
abbrev cX8_personIs : ByteArray := prog_10_method_52_code
def yX8_personIs : MethodName := ⟨RX8, "personIs", "(II)I"⟩
abbrev cX8_become : ByteArray := prog_10_method_53_code
def yX8_become : MethodName := ⟨RX8, "become", "(II)I"⟩
abbrev cX8_as : ByteArray := prog_10_method_54_code
def yX8_as : MethodName := ⟨RX8, "as", "(II)I"⟩
abbrev cX8_feel : ByteArray := prog_10_method_55_code
def yX8_feel : MethodName := ⟨RX8, "feel", "(III)I"⟩
abbrev cX8_greatest : ByteArray := prog_10_method_56_code
def yX8_greatest : MethodName := ⟨RX8, "greatest", "(I)I"⟩
abbrev cX8_thing : ByteArray := prog_10_method_57_code
def yX8_thing : MethodName := ⟨RX8, "thing", "(IIII)I"⟩
abbrev cX8_thingIs : ByteArray := prog_10_method_58_code
def yX8_thingIs : MethodName := ⟨RX8, "thingIs", "(II)I"⟩
abbrev cX8_mark : ByteArray := prog_10_method_59_code
def yX8_mark : MethodName := ⟨RX8, "mark", "(III)I"⟩
abbrev cX8_anew : ByteArray := prog_10_method_60_code
def yX8_anew : MethodName := ⟨RX8, "anew", "(I)I"⟩
abbrev cX8_law : ByteArray := prog_10_method_61_code
def yX8_law : MethodName := ⟨RX8, "law", "(IIII)I"⟩
abbrev cX8_urge : ByteArray := prog_10_method_62_code
def yX8_urge : MethodName := ⟨RX8, "urge", "(II)I"⟩
abbrev cX8_guard : ByteArray := prog_10_method_63_code
def yX8_guard : MethodName := ⟨RX8, "guard", "(II)I"⟩
abbrev cX8_comes : ByteArray := prog_10_method_64_code
def yX8_comes : MethodName := ⟨RX8, "comes", "(II)I"⟩
abbrev cX8_hours : ByteArray := prog_10_method_65_code
def yX8_hours : MethodName := ⟨RX8, "hours", "(I)I"⟩
abbrev cX8_friday : ByteArray := prog_10_method_66_code
def yX8_friday : MethodName := ⟨RX8, "friday", "(I)I"⟩
abbrev cX8_seed : ByteArray := prog_10_method_67_code
def yX8_seed : MethodName := ⟨RX8, "seed", "(I)I"⟩
abbrev cX8_wants : ByteArray := prog_10_method_68_code
def yX8_wants : MethodName := ⟨RX8, "wants", "(III)I"⟩
abbrev cX8_trap : ByteArray := prog_10_method_69_code
def yX8_trap : MethodName := ⟨RX8, "trap", "(II)I"⟩
abbrev cX8_othersWant : ByteArray := prog_10_method_70_code
def yX8_othersWant : MethodName := ⟨RX8, "othersWant", "(I)I"⟩
abbrev cX8_safest : ByteArray := prog_10_method_71_code
def yX8_safest : MethodName := ⟨RX8, "safest", "(I)I"⟩
abbrev cX8_isPeace : ByteArray := prog_10_method_72_code
def yX8_isPeace : MethodName := ⟨RX8, "isPeace", "(I)Z"⟩
abbrev cX8_bitsOf : ByteArray := prog_10_method_73_code
def yX8_bitsOf : MethodName := ⟨RX8, "bitsOf", "(I)I"⟩
abbrev cX8_lock : ByteArray := prog_10_method_74_code
def yX8_lock : MethodName := ⟨RX8, "lock", "(I)I"⟩
abbrev cX8_robs : ByteArray := prog_10_method_75_code
def yX8_robs : MethodName := ⟨RX8, "robs", "(I)I"⟩
abbrev cX8_round : ByteArray := prog_10_method_76_code
def yX8_round : MethodName := ⟨RX8, "round", "(II)I"⟩
abbrev cX8_divisor : ByteArray := prog_10_method_77_code
def yX8_divisor : MethodName := ⟨RX8, "divisor", "(II)I"⟩
abbrev cX8_odds : ByteArray := prog_10_method_78_code
def yX8_odds : MethodName := ⟨RX8, "odds", "(II)I"⟩
abbrev cX8_who : ByteArray := prog_10_method_79_code
def yX8_who : MethodName := ⟨RX8, "who", "(I)I"⟩
abbrev cX8_lost : ByteArray := prog_10_method_80_code
def yX8_lost : MethodName := ⟨RX8, "lost", "(II)I"⟩
abbrev cX8_oldest : ByteArray := prog_10_method_81_code
def yX8_oldest : MethodName := ⟨RX8, "oldest", "()I"⟩
abbrev cX8_begins : ByteArray := prog_10_method_82_code
def yX8_begins : MethodName := ⟨RX8, "begins", "(I)V"⟩
abbrev cX8_above : ByteArray := prog_10_method_83_code
def yX8_above : MethodName := ⟨RX8, "above", "(I)I"⟩
abbrev cX8_kindNow : ByteArray := prog_10_method_84_code
def yX8_kindNow : MethodName := ⟨RX8, "kindNow", "()I"⟩
abbrev cX8_mNow : ByteArray := prog_10_method_85_code
def yX8_mNow : MethodName := ⟨RX8, "mNow", "()I"⟩
abbrev cX8_sniffsAs : ByteArray := prog_10_method_86_code
def yX8_sniffsAs : MethodName := ⟨RX8, "sniffsAs", "(II)I"⟩
abbrev cX8_marksAs : ByteArray := prog_10_method_87_code
def yX8_marksAs : MethodName := ⟨RX8, "marksAs", "(II)I"⟩
abbrev cX8_swearsAs : ByteArray := prog_10_method_88_code
def yX8_swearsAs : MethodName := ⟨RX8, "swearsAs", "(II)I"⟩
abbrev cX8_partsAs : ByteArray := prog_10_method_89_code
def yX8_partsAs : MethodName := ⟨RX8, "partsAs", "(II)I"⟩
abbrev cX8_voice : ByteArray := prog_10_method_90_code
def yX8_voice : MethodName := ⟨RX8, "voice", "(III)I"⟩
abbrev cX8_body : ByteArray := prog_10_method_91_code
def yX8_body : MethodName := ⟨RX8, "body", "(I)I"⟩
abbrev cX8_isSheet : ByteArray := prog_10_method_92_code
def yX8_isSheet : MethodName := ⟨RX8, "isSheet", "(I)Z"⟩
abbrev cX8_sheet : ByteArray := prog_10_method_93_code
def yX8_sheet : MethodName := ⟨RX8, "sheet", "(III)I"⟩
abbrev cX8_put : ByteArray := prog_10_method_94_code
def yX8_put : MethodName := ⟨RX8, "put", "(III)I"⟩
abbrev cX8_move : ByteArray := prog_10_method_95_code
def yX8_move : MethodName := ⟨RX8, "move", "(IIIII)I"⟩
abbrev cX8_lacks : ByteArray := prog_10_method_96_code
def yX8_lacks : MethodName := ⟨RX8, "lacks", "(I)I"⟩
abbrev cX8_labels : ByteArray := prog_10_method_97_code
def yX8_labels : MethodName := ⟨RX8, "labels", "(I)I"⟩
abbrev cX8_judge : ByteArray := prog_10_method_98_code
def yX8_judge : MethodName := ⟨RX8, "judge", "(I)I"⟩
abbrev cX8_image : ByteArray := prog_10_method_99_code
def yX8_image : MethodName := ⟨RX8, "image", "()I"⟩
abbrev cX8_restore : ByteArray := prog_10_method_100_code
def yX8_restore : MethodName := ⟨RX8, "restore", "()I"⟩
abbrev cX8_tell : ByteArray := prog_10_method_101_code
def yX8_tell : MethodName := ⟨RX8, "tell", "(I)I"⟩
abbrev cX8_check : ByteArray := prog_10_method_102_code
def yX8_check : MethodName := ⟨RX8, "check", "()I"⟩
abbrev cX8_count : ByteArray := prog_10_method_103_code
def yX8_count : MethodName := ⟨RX8, "count", "(I)I"⟩
abbrev cX8_told : ByteArray := prog_10_method_104_code
def yX8_told : MethodName := ⟨RX8, "told", "(I)I"⟩
def RJx145de : String := "java/io/Serializable"
def TJx145de : u_T := fun k => match k with
  | _ => ("", "", "", false)
def tyJx145de : Nat → FieldType := fun k => match k with
  | _ => .int
abbrev wsJx145de0 : List Cond := u_ws RJx145de TJx145de 0
theorem nmJx145de : ∀ a, a < 0 → ∀ b, b < 0 → a ≠ b → (TJx145de a).2.1 ≠ (TJx145de b).2.1 := by decide +kernel
theorem tyJx145de_ok : ∀ k, k < 0 → parseFieldDescriptor (TJx145de k).2.2.1 = some (tyJx145de k) := by decide +kernel
def RJx9f9b0 : String := "java/lang/CharSequence"
def TJx9f9b0 : u_T := fun k => match k with
  | _ => ("", "", "", false)
def tyJx9f9b0 : Nat → FieldType := fun k => match k with
  | _ => .int
abbrev wsJx9f9b00 : List Cond := u_ws RJx9f9b0 TJx9f9b0 0
theorem nmJx9f9b0 : ∀ a, a < 0 → ∀ b, b < 0 → a ≠ b → (TJx9f9b0 a).2.1 ≠ (TJx9f9b0 b).2.1 := by decide +kernel
theorem tyJx9f9b0_ok : ∀ k, k < 0 → parseFieldDescriptor (TJx9f9b0 k).2.2.1 = some (tyJx9f9b0 k) := by decide +kernel
def RJ11 : String := "java/lang/Character"
def TJ11 : u_T := fun k => match k with
  | _ => ("", "", "", false)
def tyJ11 : Nat → FieldType := fun k => match k with
  | _ => .int
abbrev wsJ110 : List Cond := u_ws RJ11 TJ11 0
theorem nmJ11 : ∀ a, a < 0 → ∀ b, b < 0 → a ≠ b → (TJ11 a).2.1 ≠ (TJ11 b).2.1 := by decide +kernel
theorem tyJ11_ok : ∀ k, k < 0 → parseFieldDescriptor (TJ11 k).2.2.1 = some (tyJ11 k) := by decide +kernel
abbrev cJ11_isValidCodePoint_9a6ad : ByteArray := prog_11_method_11_code
def yJ11_isValidCodePoint_9a6ad : MethodName := ⟨RJ11, "isValidCodePoint", "(I)Z"⟩
abbrev cJ11_highSurrogate_5068e : ByteArray := prog_11_method_28_code
def yJ11_highSurrogate_5068e : MethodName := ⟨RJ11, "highSurrogate", "(I)C"⟩
abbrev cJ11_lowSurrogate_5068e : ByteArray := prog_11_method_29_code
def yJ11_lowSurrogate_5068e : MethodName := ⟨RJ11, "lowSurrogate", "(I)C"⟩
def RJxb160c : String := "java/lang/Comparable"
def TJxb160c : u_T := fun k => match k with
  | _ => ("", "", "", false)
def tyJxb160c : Nat → FieldType := fun k => match k with
  | _ => .int
abbrev wsJxb160c0 : List Cond := u_ws RJxb160c TJxb160c 0
theorem nmJxb160c : ∀ a, a < 0 → ∀ b, b < 0 → a ≠ b → (TJxb160c a).2.1 ≠ (TJxb160c b).2.1 := by decide +kernel
theorem tyJxb160c_ok : ∀ k, k < 0 → parseFieldDescriptor (TJxb160c k).2.2.1 = some (tyJxb160c k) := by decide +kernel
def RJ6 : String := "java/lang/Integer"
def TJ6 : u_T := fun k => match k with
  | _ => ("", "", "", false)
def tyJ6 : Nat → FieldType := fun k => match k with
  | _ => .int
abbrev wsJ60 : List Cond := u_ws RJ6 TJ6 0
theorem nmJ6 : ∀ a, a < 0 → ∀ b, b < 0 → a ≠ b → (TJ6 a).2.1 ≠ (TJ6 b).2.1 := by decide +kernel
theorem tyJ6_ok : ∀ k, k < 0 → parseFieldDescriptor (TJ6 k).2.2.1 = some (tyJ6 k) := by decide +kernel
abbrev cJ6_bitCount_0f7a4 : ByteArray := prog_12_method_49_code
def yJ6_bitCount_0f7a4 : MethodName := ⟨RJ6, "bitCount", "(I)I"⟩
def RJ9 : String := "java/lang/Math"
def TJ9 : u_T := fun k => match k with
  | _ => ("", "", "", false)
def tyJ9 : Nat → FieldType := fun k => match k with
  | _ => .int
abbrev wsJ90 : List Cond := u_ws RJ9 TJ9 0
theorem nmJ9 : ∀ a, a < 0 → ∀ b, b < 0 → a ≠ b → (TJ9 a).2.1 ≠ (TJ9 b).2.1 := by decide +kernel
theorem tyJ9_ok : ∀ k, k < 0 → parseFieldDescriptor (TJ9 k).2.2.1 = some (tyJ9 k) := by decide +kernel
abbrev cJ9_max_7cf53 : ByteArray := prog_13_method_65_code
def yJ9_max_7cf53 : MethodName := ⟨RJ9, "max", "(II)I"⟩
abbrev cJ9_min_7cf53 : ByteArray := prog_13_method_69_code
def yJ9_min_7cf53 : MethodName := ⟨RJ9, "min", "(II)I"⟩
def RJ0 : String := "java/lang/String"
def TJ0 : u_T := fun k => match k with
  | _ => ("", "", "", false)
def tyJ0 : Nat → FieldType := fun k => match k with
  | _ => .int
abbrev wsJ00 : List Cond := u_ws RJ0 TJ0 0
theorem nmJ0 : ∀ a, a < 0 → ∀ b, b < 0 → a ≠ b → (TJ0 a).2.1 ≠ (TJ0 b).2.1 := by decide +kernel
theorem tyJ0_ok : ∀ k, k < 0 → parseFieldDescriptor (TJ0 k).2.2.1 = some (tyJ0 k) := by decide +kernel
abbrev cJ0_length_8abf5 : ByteArray := prog_14_method_54_code
def yJ0_length_8abf5 : MethodName := ⟨RJ0, "length", "()I"⟩
abbrev cJ0_indexOf_0f7a4 : ByteArray := prog_14_method_79_code
def yJ0_indexOf_0f7a4 : MethodName := ⟨RJ0, "indexOf", "(I)I"⟩
abbrev cJ0_indexOf_7cf53 : ByteArray := prog_14_method_80_code
def yJ0_indexOf_7cf53 : MethodName := ⟨RJ0, "indexOf", "(II)I"⟩
abbrev cJ0_coder_7d493 : ByteArray := prog_14_method_152_code
def yJ0_coder_7d493 : MethodName := ⟨RJ0, "coder", "()B"⟩
abbrev cJ0_isLatin1_aae02 : ByteArray := prog_14_method_154_code
def yJ0_isLatin1_aae02 : MethodName := ⟨RJ0, "isLatin1", "()Z"⟩
abbrev cJ0_checkBoundsBeginEnd_23922 : ByteArray := prog_14_method_158_code
def yJ0_checkBoundsBeginEnd_23922 : MethodName := ⟨RJ0, "checkBoundsBeginEnd", "(III)V"⟩
def RJ1 : String := "java/lang/StringLatin1"
def TJ1 : u_T := fun k => match k with
  | _ => ("", "", "", false)
def tyJ1 : Nat → FieldType := fun k => match k with
  | _ => .int
abbrev wsJ10 : List Cond := u_ws RJ1 TJ1 0
theorem nmJ1 : ∀ a, a < 0 → ∀ b, b < 0 → a ≠ b → (TJ1 a).2.1 ≠ (TJ1 b).2.1 := by decide +kernel
theorem tyJ1_ok : ∀ k, k < 0 → parseFieldDescriptor (TJ1 k).2.2.1 = some (tyJ1 k) := by decide +kernel
abbrev cJ1_canEncode_9a6ad : ByteArray := prog_15_method_4_code
def yJ1_canEncode_9a6ad : MethodName := ⟨RJ1, "canEncode", "(I)Z"⟩
abbrev cJ1_indexOf_4cfef : ByteArray := prog_15_method_22_code
def yJ1_indexOf_4cfef : MethodName := ⟨RJ1, "indexOf", "([BIII)I"⟩
abbrev cJ1_indexOfChar_4cfef : ByteArray := prog_15_method_23_code
def yJ1_indexOfChar_4cfef : MethodName := ⟨RJ1, "indexOfChar", "([BIII)I"⟩
def RJ2 : String := "java/lang/StringUTF16"
def TJ2 : u_T := fun k => match k with
  | _ => ("", "", "", false)
def tyJ2 : Nat → FieldType := fun k => match k with
  | _ => .int
abbrev wsJ20 : List Cond := u_ws RJ2 TJ2 0
theorem nmJ2 : ∀ a, a < 0 → ∀ b, b < 0 → a ≠ b → (TJ2 a).2.1 ≠ (TJ2 b).2.1 := by decide +kernel
theorem tyJ2_ok : ∀ k, k < 0 → parseFieldDescriptor (TJ2 k).2.2.1 = some (tyJ2 k) := by decide +kernel
abbrev cJ2_getChar_3b067 : ByteArray := prog_16_method_5_code
def yJ2_getChar_3b067 : MethodName := ⟨RJ2, "getChar", "([BI)C"⟩
abbrev cJ2_length_9d52b : ByteArray := prog_16_method_6_code
def yJ2_length_9d52b : MethodName := ⟨RJ2, "length", "([B)I"⟩
abbrev cJ2_indexOf_4cfef : ByteArray := prog_16_method_40_code
def yJ2_indexOf_4cfef : MethodName := ⟨RJ2, "indexOf", "([BIII)I"⟩
abbrev cJ2_indexOfChar_4cfef : ByteArray := prog_16_method_47_code
def yJ2_indexOfChar_4cfef : MethodName := ⟨RJ2, "indexOfChar", "([BIII)I"⟩
abbrev cJ2_indexOfCharUnsafe_4cfef : ByteArray := prog_16_method_48_code
def yJ2_indexOfCharUnsafe_4cfef : MethodName := ⟨RJ2, "indexOfCharUnsafe", "([BIII)I"⟩
abbrev cJ2_indexOfSupplementary_4cfef : ByteArray := prog_16_method_49_code
def yJ2_indexOfSupplementary_4cfef : MethodName := ⟨RJ2, "indexOfSupplementary", "([BIII)I"⟩
abbrev cJ2_checkBoundsBeginEnd_d044e : ByteArray := prog_16_method_93_code
def yJ2_checkBoundsBeginEnd_d044e : MethodName := ⟨RJ2, "checkBoundsBeginEnd", "(II[B)V"⟩
def RJ10 : String := "java/lang/System"
def TJ10 : u_T := fun k => match k with
  | _ => ("", "", "", false)
def tyJ10 : Nat → FieldType := fun k => match k with
  | _ => .int
abbrev wsJ100 : List Cond := u_ws RJ10 TJ10 0
theorem nmJ10 : ∀ a, a < 0 → ∀ b, b < 0 → a ≠ b → (TJ10 a).2.1 ≠ (TJ10 b).2.1 := by decide +kernel
theorem tyJ10_ok : ∀ k, k < 0 → parseFieldDescriptor (TJ10 k).2.2.1 = some (tyJ10 k) := by decide +kernel
def RJxfd54e : String := "java/lang/constant/Constable"
def TJxfd54e : u_T := fun k => match k with
  | _ => ("", "", "", false)
def tyJxfd54e : Nat → FieldType := fun k => match k with
  | _ => .int
abbrev wsJxfd54e0 : List Cond := u_ws RJxfd54e TJxfd54e 0
theorem nmJxfd54e : ∀ a, a < 0 → ∀ b, b < 0 → a ≠ b → (TJxfd54e a).2.1 ≠ (TJxfd54e b).2.1 := by decide +kernel
theorem tyJxfd54e_ok : ∀ k, k < 0 → parseFieldDescriptor (TJxfd54e k).2.2.1 = some (tyJxfd54e k) := by decide +kernel
def RJx3cf43 : String := "java/lang/constant/ConstantDesc"
def TJx3cf43 : u_T := fun k => match k with
  | _ => ("", "", "", false)
def tyJx3cf43 : Nat → FieldType := fun k => match k with
  | _ => .int
abbrev wsJx3cf430 : List Cond := u_ws RJx3cf43 TJx3cf43 0
theorem nmJx3cf43 : ∀ a, a < 0 → ∀ b, b < 0 → a ≠ b → (TJx3cf43 a).2.1 ≠ (TJx3cf43 b).2.1 := by decide +kernel
theorem tyJx3cf43_ok : ∀ k, k < 0 → parseFieldDescriptor (TJx3cf43 k).2.2.1 = some (tyJx3cf43 k) := by decide +kernel
def RJ7 : String := "java/util/Arrays"
def TJ7 : u_T := fun k => match k with
  | _ => ("", "", "", false)
def tyJ7 : Nat → FieldType := fun k => match k with
  | _ => .int
abbrev wsJ70 : List Cond := u_ws RJ7 TJ7 0
theorem nmJ7 : ∀ a, a < 0 → ∀ b, b < 0 → a ≠ b → (TJ7 a).2.1 ≠ (TJ7 b).2.1 := by decide +kernel
theorem tyJ7_ok : ∀ k, k < 0 → parseFieldDescriptor (TJ7 k).2.2.1 = some (tyJ7 k) := by decide +kernel
abbrev cJ7_fill_53178 : ByteArray := prog_18_method_103_code
def yJ7_fill_53178 : MethodName := ⟨RJ7, "fill", "([II)V"⟩
def RJ3 : String := "jdk/internal/util/Preconditions"
def TJ3 : u_T := fun k => match k with
  | _ => ("", "", "", false)
def tyJ3 : Nat → FieldType := fun k => match k with
  | _ => .int
abbrev wsJ30 : List Cond := u_ws RJ3 TJ3 0
theorem nmJ3 : ∀ a, a < 0 → ∀ b, b < 0 → a ≠ b → (TJ3 a).2.1 ≠ (TJ3 b).2.1 := by decide +kernel
theorem tyJ3_ok : ∀ k, k < 0 → parseFieldDescriptor (TJ3 k).2.2.1 = some (tyJ3 k) := by decide +kernel
abbrev cJ3_checkFromToIndex_8c36e : ByteArray := prog_19_method_12_code
def yJ3_checkFromToIndex_8c36e : MethodName := ⟨RJ3, "checkFromToIndex", "(IIILjava/util/function/BiFunction;)I"⟩
def RL : String := "ElevenYoghurtsLaw"
abbrev cL_law : ByteArray := code
def yL_law : MethodName := ⟨RL, "law", "([I)Z"⟩
abbrev vwCl : List vw_C := [(RX0, TX0, 15), (RX1, TX1, 5), (RX2, TX2, 6), (RX3, TX3, 5), (RX4, TX4, 3), (RX5, TX5, 7), (RX6, TX6, 7), (RX7, TX7, 9), (RX8, TX8, 22)]

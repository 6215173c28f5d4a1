section
-- ===== PART A: goes FIRST, ahead of the names: the tables' words, and 'selects' of the private methods out of them =====
/-- a private method of a class that the tables say can be made, by its rows of tables_1 -/
def lw_okq (q : MethodName × Nat) : Prop := (q.1.cls ≠ "java/lang/invoke/MethodHandle" ∧ q.1.cls ≠ "java/lang/invoke/VarHandle") ∧ Cond.instantiable q.1.cls q.2 ∈ tables_1 ∧ Cond.privateMethod q.1 ∈ tables_1 ∧ Cond.instanceMethod q.1 ∈ tables_1
theorem lw_p0 : lw_okq (⟨"SeasonBound$Tape", "readName", "()V"⟩, 6) := ⟨⟨by decide +kernel, by decide +kernel⟩, List.mem_of_getElem? (i := 27) (by decide +kernel), List.mem_of_getElem? (i := 316) (by decide +kernel), List.mem_of_getElem? (i := 317) (by decide +kernel)⟩
theorem lw_p1 : lw_okq (⟨"SeasonBound$Tape", "readNumber", "()V"⟩, 6) := ⟨⟨by decide +kernel, by decide +kernel⟩, List.mem_of_getElem? (i := 27) (by decide +kernel), List.mem_of_getElem? (i := 323) (by decide +kernel), List.mem_of_getElem? (i := 324) (by decide +kernel)⟩
theorem lw_p2 : lw_okq (⟨"SeasonBound$Reader", "readLine", "()Z"⟩, 5) := ⟨⟨by decide +kernel, by decide +kernel⟩, List.mem_of_getElem? (i := 177) (by decide +kernel), List.mem_of_getElem? (i := 327) (by decide +kernel), List.mem_of_getElem? (i := 328) (by decide +kernel)⟩
theorem lw_p3 : lw_okq (⟨"SeasonBound$Reader", "readSeason", "(I)Z"⟩, 5) := ⟨⟨by decide +kernel, by decide +kernel⟩, List.mem_of_getElem? (i := 177) (by decide +kernel), List.mem_of_getElem? (i := 394) (by decide +kernel), List.mem_of_getElem? (i := 395) (by decide +kernel)⟩
theorem lw_p4 : lw_okq (⟨"SeasonBound$Reader", "fail", "(I)Z"⟩, 5) := ⟨⟨by decide +kernel, by decide +kernel⟩, List.mem_of_getElem? (i := 177) (by decide +kernel), List.mem_of_getElem? (i := 398) (by decide +kernel), List.mem_of_getElem? (i := 399) (by decide +kernel)⟩
theorem lw_p5 : lw_okq (⟨"SeasonBound$Reader", "readNumber", "(II)Z"⟩, 5) := ⟨⟨by decide +kernel, by decide +kernel⟩, List.mem_of_getElem? (i := 177) (by decide +kernel), List.mem_of_getElem? (i := 402) (by decide +kernel), List.mem_of_getElem? (i := 403) (by decide +kernel)⟩
theorem lw_p6 : lw_okq (⟨"SeasonBound$Reader", "failAtToken", "()Z"⟩, 5) := ⟨⟨by decide +kernel, by decide +kernel⟩, List.mem_of_getElem? (i := 177) (by decide +kernel), List.mem_of_getElem? (i := 406) (by decide +kernel), List.mem_of_getElem? (i := 407) (by decide +kernel)⟩
theorem lw_p7 : lw_okq (⟨"SeasonBound$Reader", "readChild", "(I)Z"⟩, 5) := ⟨⟨by decide +kernel, by decide +kernel⟩, List.mem_of_getElem? (i := 177) (by decide +kernel), List.mem_of_getElem? (i := 411) (by decide +kernel), List.mem_of_getElem? (i := 412) (by decide +kernel)⟩
theorem lw_p8 : lw_okq (⟨"SeasonBound$Reader", "readStop", "()Z"⟩, 5) := ⟨⟨by decide +kernel, by decide +kernel⟩, List.mem_of_getElem? (i := 177) (by decide +kernel), List.mem_of_getElem? (i := 454) (by decide +kernel), List.mem_of_getElem? (i := 455) (by decide +kernel)⟩
theorem lw_p9 : lw_okq (⟨"SeasonBound", "skillsAsItIs", "(I)I"⟩, 11) := ⟨⟨by decide +kernel, by decide +kernel⟩, List.mem_of_getElem? (i := 19) (by decide +kernel), List.mem_of_getElem? (i := 606) (by decide +kernel), List.mem_of_getElem? (i := 607) (by decide +kernel)⟩
theorem lw_p10 : lw_okq (⟨"SeasonBound", "skillsOfTrial", "(I)I"⟩, 11) := ⟨⟨by decide +kernel, by decide +kernel⟩, List.mem_of_getElem? (i := 19) (by decide +kernel), List.mem_of_getElem? (i := 610) (by decide +kernel), List.mem_of_getElem? (i := 611) (by decide +kernel)⟩
theorem lw_p11 : lw_okq (⟨"SeasonBound", "skillsIfSwapped", "(III)I"⟩, 11) := ⟨⟨by decide +kernel, by decide +kernel⟩, List.mem_of_getElem? (i := 19) (by decide +kernel), List.mem_of_getElem? (i := 614) (by decide +kernel), List.mem_of_getElem? (i := 615) (by decide +kernel)⟩
theorem lw_p12 : lw_okq (⟨"SeasonBound", "lessonsInTrial", "(I)I"⟩, 11) := ⟨⟨by decide +kernel, by decide +kernel⟩, List.mem_of_getElem? (i := 19) (by decide +kernel), List.mem_of_getElem? (i := 645) (by decide +kernel), List.mem_of_getElem? (i := 646) (by decide +kernel)⟩
theorem lw_p13 : lw_okq (⟨"SeasonBound", "skillOverLuck", "(III)J"⟩, 11) := ⟨⟨by decide +kernel, by decide +kernel⟩, List.mem_of_getElem? (i := 19) (by decide +kernel), List.mem_of_getElem? (i := 679) (by decide +kernel), List.mem_of_getElem? (i := 680) (by decide +kernel)⟩
theorem lw_p14 : lw_okq (⟨"SeasonBound$World", "lastSeen", "()I"⟩, 10) := ⟨⟨by decide +kernel, by decide +kernel⟩, List.mem_of_getElem? (i := 57) (by decide +kernel), List.mem_of_getElem? (i := 703) (by decide +kernel), List.mem_of_getElem? (i := 704) (by decide +kernel)⟩
theorem lw_p15 : lw_okq (⟨"SeasonBound$World", "isAsSeen", "(I)Z"⟩, 10) := ⟨⟨by decide +kernel, by decide +kernel⟩, List.mem_of_getElem? (i := 57) (by decide +kernel), List.mem_of_getElem? (i := 708) (by decide +kernel), List.mem_of_getElem? (i := 709) (by decide +kernel)⟩
def lw_privs_1 : List (MethodName × Nat) := [(⟨"SeasonBound$Tape", "readName", "()V"⟩, 6), (⟨"SeasonBound$Tape", "readNumber", "()V"⟩, 6), (⟨"SeasonBound$Reader", "readLine", "()Z"⟩, 5), (⟨"SeasonBound$Reader", "readSeason", "(I)Z"⟩, 5), (⟨"SeasonBound$Reader", "fail", "(I)Z"⟩, 5), (⟨"SeasonBound$Reader", "readNumber", "(II)Z"⟩, 5), (⟨"SeasonBound$Reader", "failAtToken", "()Z"⟩, 5), (⟨"SeasonBound$Reader", "readChild", "(I)Z"⟩, 5), (⟨"SeasonBound$Reader", "readStop", "()Z"⟩, 5), (⟨"SeasonBound", "skillsAsItIs", "(I)I"⟩, 11), (⟨"SeasonBound", "skillsOfTrial", "(I)I"⟩, 11), (⟨"SeasonBound", "skillsIfSwapped", "(III)I"⟩, 11), (⟨"SeasonBound", "lessonsInTrial", "(I)I"⟩, 11), (⟨"SeasonBound", "skillOverLuck", "(III)J"⟩, 11), (⟨"SeasonBound$World", "lastSeen", "()I"⟩, 10), (⟨"SeasonBound$World", "isAsSeen", "(I)Z"⟩, 10)]
theorem lw_r1 : ∀ q ∈ lw_privs_1, lw_okq q := List.forall_mem_cons.mpr ⟨lw_p0, List.forall_mem_cons.mpr ⟨lw_p1, List.forall_mem_cons.mpr ⟨lw_p2, List.forall_mem_cons.mpr ⟨lw_p3, List.forall_mem_cons.mpr ⟨lw_p4, List.forall_mem_cons.mpr ⟨lw_p5, List.forall_mem_cons.mpr ⟨lw_p6, List.forall_mem_cons.mpr ⟨lw_p7, List.forall_mem_cons.mpr ⟨lw_p8, List.forall_mem_cons.mpr ⟨lw_p9, List.forall_mem_cons.mpr ⟨lw_p10, List.forall_mem_cons.mpr ⟨lw_p11, List.forall_mem_cons.mpr ⟨lw_p12, List.forall_mem_cons.mpr ⟨lw_p13, List.forall_mem_cons.mpr ⟨lw_p14, List.forall_mem_cons.mpr ⟨lw_p15, fun _ h => absurd h List.not_mem_nil⟩⟩⟩⟩⟩⟩⟩⟩⟩⟩⟩⟩⟩⟩⟩⟩
theorem lw_p16 : lw_okq (⟨"SeasonBound", "fittingGifts", "(I)I"⟩, 11) := ⟨⟨by decide +kernel, by decide +kernel⟩, List.mem_of_getElem? (i := 19) (by decide +kernel), List.mem_of_getElem? (i := 720) (by decide +kernel), List.mem_of_getElem? (i := 721) (by decide +kernel)⟩
theorem lw_p17 : lw_okq (⟨"SeasonBound", "mostAlike", "(III)I"⟩, 11) := ⟨⟨by decide +kernel, by decide +kernel⟩, List.mem_of_getElem? (i := 19) (by decide +kernel), List.mem_of_getElem? (i := 730) (by decide +kernel), List.mem_of_getElem? (i := 731) (by decide +kernel)⟩
theorem lw_p18 : lw_okq (⟨"SeasonBound", "countKept", "()I"⟩, 11) := ⟨⟨by decide +kernel, by decide +kernel⟩, List.mem_of_getElem? (i := 19) (by decide +kernel), List.mem_of_getElem? (i := 797) (by decide +kernel), List.mem_of_getElem? (i := 798) (by decide +kernel)⟩
theorem lw_p19 : lw_okq (⟨"SeasonBoundModel", "firstDraft", "()V"⟩, 25) := ⟨⟨by decide +kernel, by decide +kernel⟩, List.mem_of_getElem? (i := 810) (by decide +kernel), List.mem_of_getElem? (i := 816) (by decide +kernel), List.mem_of_getElem? (i := 817) (by decide +kernel)⟩
theorem lw_p20 : lw_okq (⟨"SeasonBoundModel", "keepDraft", "()V"⟩, 25) := ⟨⟨by decide +kernel, by decide +kernel⟩, List.mem_of_getElem? (i := 810) (by decide +kernel), List.mem_of_getElem? (i := 820) (by decide +kernel), List.mem_of_getElem? (i := 821) (by decide +kernel)⟩
theorem lw_p21 : lw_okq (⟨"SeasonBoundModel", "reads", "()V"⟩, 25) := ⟨⟨by decide +kernel, by decide +kernel⟩, List.mem_of_getElem? (i := 810) (by decide +kernel), List.mem_of_getElem? (i := 916) (by decide +kernel), List.mem_of_getElem? (i := 917) (by decide +kernel)⟩
theorem lw_p22 : lw_okq (⟨"SeasonBoundModel", "byteAt", "(I)I"⟩, 25) := ⟨⟨by decide +kernel, by decide +kernel⟩, List.mem_of_getElem? (i := 810) (by decide +kernel), List.mem_of_getElem? (i := 920) (by decide +kernel), List.mem_of_getElem? (i := 921) (by decide +kernel)⟩
theorem lw_p23 : lw_okq (⟨"SeasonBoundModel", "needs", "(ZI)V"⟩, 25) := ⟨⟨by decide +kernel, by decide +kernel⟩, List.mem_of_getElem? (i := 810) (by decide +kernel), List.mem_of_getElem? (i := 928) (by decide +kernel), List.mem_of_getElem? (i := 929) (by decide +kernel)⟩
theorem lw_p24 : lw_okq (⟨"SeasonBoundModel", "readLine", "()V"⟩, 25) := ⟨⟨by decide +kernel, by decide +kernel⟩, List.mem_of_getElem? (i := 810) (by decide +kernel), List.mem_of_getElem? (i := 932) (by decide +kernel), List.mem_of_getElem? (i := 933) (by decide +kernel)⟩
theorem lw_p25 : lw_okq (⟨"SeasonBoundModel", "lineNow", "()I"⟩, 25) := ⟨⟨by decide +kernel, by decide +kernel⟩, List.mem_of_getElem? (i := 810) (by decide +kernel), List.mem_of_getElem? (i := 936) (by decide +kernel), List.mem_of_getElem? (i := 937) (by decide +kernel)⟩
theorem lw_p26 : lw_okq (⟨"SeasonBoundModel", "is", "(IIIII)Z"⟩, 25) := ⟨⟨by decide +kernel, by decide +kernel⟩, List.mem_of_getElem? (i := 810) (by decide +kernel), List.mem_of_getElem? (i := 940) (by decide +kernel), List.mem_of_getElem? (i := 941) (by decide +kernel)⟩
theorem lw_p27 : lw_okq (⟨"SeasonBoundModel", "ends", "(II)Z"⟩, 25) := ⟨⟨by decide +kernel, by decide +kernel⟩, List.mem_of_getElem? (i := 810) (by decide +kernel), List.mem_of_getElem? (i := 944) (by decide +kernel), List.mem_of_getElem? (i := 945) (by decide +kernel)⟩
theorem lw_p28 : lw_okq (⟨"SeasonBoundModel", "seasonNow", "()I"⟩, 25) := ⟨⟨by decide +kernel, by decide +kernel⟩, List.mem_of_getElem? (i := 810) (by decide +kernel), List.mem_of_getElem? (i := 948) (by decide +kernel), List.mem_of_getElem? (i := 949) (by decide +kernel)⟩
theorem lw_p29 : lw_okq (⟨"SeasonBoundModel", "readChild", "(I)V"⟩, 25) := ⟨⟨by decide +kernel, by decide +kernel⟩, List.mem_of_getElem? (i := 810) (by decide +kernel), List.mem_of_getElem? (i := 952) (by decide +kernel), List.mem_of_getElem? (i := 953) (by decide +kernel)⟩
theorem lw_p30 : lw_okq (⟨"SeasonBoundModel", "looked", "(II)I"⟩, 25) := ⟨⟨by decide +kernel, by decide +kernel⟩, List.mem_of_getElem? (i := 810) (by decide +kernel), List.mem_of_getElem? (i := 956) (by decide +kernel), List.mem_of_getElem? (i := 957) (by decide +kernel)⟩
theorem lw_p31 : lw_okq (⟨"SeasonBoundModel", "readNumber", "(II)I"⟩, 25) := ⟨⟨by decide +kernel, by decide +kernel⟩, List.mem_of_getElem? (i := 810) (by decide +kernel), List.mem_of_getElem? (i := 960) (by decide +kernel), List.mem_of_getElem? (i := 961) (by decide +kernel)⟩
def lw_privs_2 : List (MethodName × Nat) := [(⟨"SeasonBound", "fittingGifts", "(I)I"⟩, 11), (⟨"SeasonBound", "mostAlike", "(III)I"⟩, 11), (⟨"SeasonBound", "countKept", "()I"⟩, 11), (⟨"SeasonBoundModel", "firstDraft", "()V"⟩, 25), (⟨"SeasonBoundModel", "keepDraft", "()V"⟩, 25), (⟨"SeasonBoundModel", "reads", "()V"⟩, 25), (⟨"SeasonBoundModel", "byteAt", "(I)I"⟩, 25), (⟨"SeasonBoundModel", "needs", "(ZI)V"⟩, 25), (⟨"SeasonBoundModel", "readLine", "()V"⟩, 25), (⟨"SeasonBoundModel", "lineNow", "()I"⟩, 25), (⟨"SeasonBoundModel", "is", "(IIIII)Z"⟩, 25), (⟨"SeasonBoundModel", "ends", "(II)Z"⟩, 25), (⟨"SeasonBoundModel", "seasonNow", "()I"⟩, 25), (⟨"SeasonBoundModel", "readChild", "(I)V"⟩, 25), (⟨"SeasonBoundModel", "looked", "(II)I"⟩, 25), (⟨"SeasonBoundModel", "readNumber", "(II)I"⟩, 25)]
theorem lw_r2 : ∀ q ∈ lw_privs_2, lw_okq q := List.forall_mem_cons.mpr ⟨lw_p16, List.forall_mem_cons.mpr ⟨lw_p17, List.forall_mem_cons.mpr ⟨lw_p18, List.forall_mem_cons.mpr ⟨lw_p19, List.forall_mem_cons.mpr ⟨lw_p20, List.forall_mem_cons.mpr ⟨lw_p21, List.forall_mem_cons.mpr ⟨lw_p22, List.forall_mem_cons.mpr ⟨lw_p23, List.forall_mem_cons.mpr ⟨lw_p24, List.forall_mem_cons.mpr ⟨lw_p25, List.forall_mem_cons.mpr ⟨lw_p26, List.forall_mem_cons.mpr ⟨lw_p27, List.forall_mem_cons.mpr ⟨lw_p28, List.forall_mem_cons.mpr ⟨lw_p29, List.forall_mem_cons.mpr ⟨lw_p30, List.forall_mem_cons.mpr ⟨lw_p31, fun _ h => absurd h List.not_mem_nil⟩⟩⟩⟩⟩⟩⟩⟩⟩⟩⟩⟩⟩⟩⟩⟩
theorem lw_p32 : lw_okq (⟨"SeasonBoundModel", "readSeason", "(I)V"⟩, 25) := ⟨⟨by decide +kernel, by decide +kernel⟩, List.mem_of_getElem? (i := 810) (by decide +kernel), List.mem_of_getElem? (i := 964) (by decide +kernel), List.mem_of_getElem? (i := 965) (by decide +kernel)⟩
theorem lw_p33 : lw_okq (⟨"SeasonBoundModel", "starts", "()V"⟩, 25) := ⟨⟨by decide +kernel, by decide +kernel⟩, List.mem_of_getElem? (i := 810) (by decide +kernel), List.mem_of_getElem? (i := 976) (by decide +kernel), List.mem_of_getElem? (i := 977) (by decide +kernel)⟩
theorem lw_p34 : lw_okq (⟨"SeasonBoundModel", "livingNow", "()I"⟩, 25) := ⟨⟨by decide +kernel, by decide +kernel⟩, List.mem_of_getElem? (i := 810) (by decide +kernel), List.mem_of_getElem? (i := 980) (by decide +kernel), List.mem_of_getElem? (i := 981) (by decide +kernel)⟩
theorem lw_p35 : lw_okq (⟨"SeasonBoundModel", "lives", "(I)Z"⟩, 25) := ⟨⟨by decide +kernel, by decide +kernel⟩, List.mem_of_getElem? (i := 810) (by decide +kernel), List.mem_of_getElem? (i := 984) (by decide +kernel), List.mem_of_getElem? (i := 985) (by decide +kernel)⟩
theorem lw_p36 : lw_okq (⟨"SeasonBoundModel", "isFree", "(I)Z"⟩, 25) := ⟨⟨by decide +kernel, by decide +kernel⟩, List.mem_of_getElem? (i := 810) (by decide +kernel), List.mem_of_getElem? (i := 988) (by decide +kernel), List.mem_of_getElem? (i := 989) (by decide +kernel)⟩
theorem lw_p37 : lw_okq (⟨"SeasonBoundModel", "of", "(II)I"⟩, 25) := ⟨⟨by decide +kernel, by decide +kernel⟩, List.mem_of_getElem? (i := 810) (by decide +kernel), List.mem_of_getElem? (i := 992) (by decide +kernel), List.mem_of_getElem? (i := 993) (by decide +kernel)⟩
theorem lw_p38 : lw_okq (⟨"SeasonBoundModel", "sumOf", "(I)I"⟩, 25) := ⟨⟨by decide +kernel, by decide +kernel⟩, List.mem_of_getElem? (i := 810) (by decide +kernel), List.mem_of_getElem? (i := 999) (by decide +kernel), List.mem_of_getElem? (i := 1000) (by decide +kernel)⟩
theorem lw_p39 : lw_okq (⟨"SeasonBoundModel", "isChild", "(I)Z"⟩, 25) := ⟨⟨by decide +kernel, by decide +kernel⟩, List.mem_of_getElem? (i := 810) (by decide +kernel), List.mem_of_getElem? (i := 1007) (by decide +kernel), List.mem_of_getElem? (i := 1008) (by decide +kernel)⟩
theorem lw_p40 : lw_okq (⟨"SeasonBoundModel", "learns", "(I)I"⟩, 25) := ⟨⟨by decide +kernel, by decide +kernel⟩, List.mem_of_getElem? (i := 810) (by decide +kernel), List.mem_of_getElem? (i := 1012) (by decide +kernel), List.mem_of_getElem? (i := 1013) (by decide +kernel)⟩
theorem lw_p41 : lw_okq (⟨"SeasonBoundModel", "boundTo", "(I)I"⟩, 25) := ⟨⟨by decide +kernel, by decide +kernel⟩, List.mem_of_getElem? (i := 810) (by decide +kernel), List.mem_of_getElem? (i := 1024) (by decide +kernel), List.mem_of_getElem? (i := 1025) (by decide +kernel)⟩
theorem lw_p42 : lw_okq (⟨"SeasonBoundModel", "becomes", "(II)I"⟩, 25) := ⟨⟨by decide +kernel, by decide +kernel⟩, List.mem_of_getElem? (i := 810) (by decide +kernel), List.mem_of_getElem? (i := 1036) (by decide +kernel), List.mem_of_getElem? (i := 1037) (by decide +kernel)⟩
theorem lw_p43 : lw_okq (⟨"SeasonBoundModel", "isBound", "(I)Z"⟩, 25) := ⟨⟨by decide +kernel, by decide +kernel⟩, List.mem_of_getElem? (i := 810) (by decide +kernel), List.mem_of_getElem? (i := 1049) (by decide +kernel), List.mem_of_getElem? (i := 1050) (by decide +kernel)⟩
theorem lw_p44 : lw_okq (⟨"SeasonBoundModel", "skillsBehind", "(I)I"⟩, 25) := ⟨⟨by decide +kernel, by decide +kernel⟩, List.mem_of_getElem? (i := 810) (by decide +kernel), List.mem_of_getElem? (i := 1066) (by decide +kernel), List.mem_of_getElem? (i := 1067) (by decide +kernel)⟩
theorem lw_p45 : lw_okq (⟨"SeasonBoundModel", "weeksGo", "(I)V"⟩, 25) := ⟨⟨by decide +kernel, by decide +kernel⟩, List.mem_of_getElem? (i := 810) (by decide +kernel), List.mem_of_getElem? (i := 1070) (by decide +kernel), List.mem_of_getElem? (i := 1071) (by decide +kernel)⟩
theorem lw_p46 : lw_okq (⟨"SeasonBoundModel", "weekGoes", "(Z)V"⟩, 25) := ⟨⟨by decide +kernel, by decide +kernel⟩, List.mem_of_getElem? (i := 810) (by decide +kernel), List.mem_of_getElem? (i := 1074) (by decide +kernel), List.mem_of_getElem? (i := 1075) (by decide +kernel)⟩
theorem lw_p47 : lw_okq (⟨"SeasonBoundModel", "childGoes", "(IZ)V"⟩, 25) := ⟨⟨by decide +kernel, by decide +kernel⟩, List.mem_of_getElem? (i := 810) (by decide +kernel), List.mem_of_getElem? (i := 1078) (by decide +kernel), List.mem_of_getElem? (i := 1079) (by decide +kernel)⟩
def lw_privs_3 : List (MethodName × Nat) := [(⟨"SeasonBoundModel", "readSeason", "(I)V"⟩, 25), (⟨"SeasonBoundModel", "starts", "()V"⟩, 25), (⟨"SeasonBoundModel", "livingNow", "()I"⟩, 25), (⟨"SeasonBoundModel", "lives", "(I)Z"⟩, 25), (⟨"SeasonBoundModel", "isFree", "(I)Z"⟩, 25), (⟨"SeasonBoundModel", "of", "(II)I"⟩, 25), (⟨"SeasonBoundModel", "sumOf", "(I)I"⟩, 25), (⟨"SeasonBoundModel", "isChild", "(I)Z"⟩, 25), (⟨"SeasonBoundModel", "learns", "(I)I"⟩, 25), (⟨"SeasonBoundModel", "boundTo", "(I)I"⟩, 25), (⟨"SeasonBoundModel", "becomes", "(II)I"⟩, 25), (⟨"SeasonBoundModel", "isBound", "(I)Z"⟩, 25), (⟨"SeasonBoundModel", "skillsBehind", "(I)I"⟩, 25), (⟨"SeasonBoundModel", "weeksGo", "(I)V"⟩, 25), (⟨"SeasonBoundModel", "weekGoes", "(Z)V"⟩, 25), (⟨"SeasonBoundModel", "childGoes", "(IZ)V"⟩, 25)]
theorem lw_r3 : ∀ q ∈ lw_privs_3, lw_okq q := List.forall_mem_cons.mpr ⟨lw_p32, List.forall_mem_cons.mpr ⟨lw_p33, List.forall_mem_cons.mpr ⟨lw_p34, List.forall_mem_cons.mpr ⟨lw_p35, List.forall_mem_cons.mpr ⟨lw_p36, List.forall_mem_cons.mpr ⟨lw_p37, List.forall_mem_cons.mpr ⟨lw_p38, List.forall_mem_cons.mpr ⟨lw_p39, List.forall_mem_cons.mpr ⟨lw_p40, List.forall_mem_cons.mpr ⟨lw_p41, List.forall_mem_cons.mpr ⟨lw_p42, List.forall_mem_cons.mpr ⟨lw_p43, List.forall_mem_cons.mpr ⟨lw_p44, List.forall_mem_cons.mpr ⟨lw_p45, List.forall_mem_cons.mpr ⟨lw_p46, List.forall_mem_cons.mpr ⟨lw_p47, fun _ h => absurd h List.not_mem_nil⟩⟩⟩⟩⟩⟩⟩⟩⟩⟩⟩⟩⟩⟩⟩⟩
theorem lw_p48 : lw_okq (⟨"SeasonBoundModel", "becomesOf", "(III)V"⟩, 25) := ⟨⟨by decide +kernel, by decide +kernel⟩, List.mem_of_getElem? (i := 810) (by decide +kernel), List.mem_of_getElem? (i := 1085) (by decide +kernel), List.mem_of_getElem? (i := 1086) (by decide +kernel)⟩
theorem lw_p49 : lw_okq (⟨"SeasonBoundModel", "settles", "()V"⟩, 25) := ⟨⟨by decide +kernel, by decide +kernel⟩, List.mem_of_getElem? (i := 810) (by decide +kernel), List.mem_of_getElem? (i := 1089) (by decide +kernel), List.mem_of_getElem? (i := 1090) (by decide +kernel)⟩
theorem lw_p50 : lw_okq (⟨"SeasonBoundModel", "freeNow", "()I"⟩, 25) := ⟨⟨by decide +kernel, by decide +kernel⟩, List.mem_of_getElem? (i := 810) (by decide +kernel), List.mem_of_getElem? (i := 1102) (by decide +kernel), List.mem_of_getElem? (i := 1103) (by decide +kernel)⟩
theorem lw_p51 : lw_okq (⟨"SeasonBoundModel", "startsJudging", "(I)V"⟩, 25) := ⟨⟨by decide +kernel, by decide +kernel⟩, List.mem_of_getElem? (i := 810) (by decide +kernel), List.mem_of_getElem? (i := 1126) (by decide +kernel), List.mem_of_getElem? (i := 1127) (by decide +kernel)⟩
theorem lw_p52 : lw_okq (⟨"SeasonBoundModel", "judges", "(II)V"⟩, 25) := ⟨⟨by decide +kernel, by decide +kernel⟩, List.mem_of_getElem? (i := 810) (by decide +kernel), List.mem_of_getElem? (i := 1130) (by decide +kernel), List.mem_of_getElem? (i := 1131) (by decide +kernel)⟩
theorem lw_p53 : lw_okq (⟨"SeasonBoundModel", "judged", "(I)I"⟩, 25) := ⟨⟨by decide +kernel, by decide +kernel⟩, List.mem_of_getElem? (i := 810) (by decide +kernel), List.mem_of_getElem? (i := 1134) (by decide +kernel), List.mem_of_getElem? (i := 1135) (by decide +kernel)⟩
theorem lw_p54 : lw_okq (⟨"SeasonBoundModel", "findOdds", "(IIII)V"⟩, 25) := ⟨⟨by decide +kernel, by decide +kernel⟩, List.mem_of_getElem? (i := 810) (by decide +kernel), List.mem_of_getElem? (i := 1165) (by decide +kernel), List.mem_of_getElem? (i := 1166) (by decide +kernel)⟩
theorem lw_p55 : lw_okq (⟨"SeasonBoundModel", "which", "(II)I"⟩, 25) := ⟨⟨by decide +kernel, by decide +kernel⟩, List.mem_of_getElem? (i := 810) (by decide +kernel), List.mem_of_getElem? (i := 1191) (by decide +kernel), List.mem_of_getElem? (i := 1192) (by decide +kernel)⟩
theorem lw_p56 : lw_okq (⟨"SeasonBoundModel", "isSoWith", "(II)Z"⟩, 25) := ⟨⟨by decide +kernel, by decide +kernel⟩, List.mem_of_getElem? (i := 810) (by decide +kernel), List.mem_of_getElem? (i := 1195) (by decide +kernel), List.mem_of_getElem? (i := 1196) (by decide +kernel)⟩
theorem lw_p57 : lw_okq (⟨"SeasonBoundModel", "copies", "(II)V"⟩, 25) := ⟨⟨by decide +kernel, by decide +kernel⟩, List.mem_of_getElem? (i := 810) (by decide +kernel), List.mem_of_getElem? (i := 1220) (by decide +kernel), List.mem_of_getElem? (i := 1221) (by decide +kernel)⟩
def lw_privs_4 : List (MethodName × Nat) := [(⟨"SeasonBoundModel", "becomesOf", "(III)V"⟩, 25), (⟨"SeasonBoundModel", "settles", "()V"⟩, 25), (⟨"SeasonBoundModel", "freeNow", "()I"⟩, 25), (⟨"SeasonBoundModel", "startsJudging", "(I)V"⟩, 25), (⟨"SeasonBoundModel", "judges", "(II)V"⟩, 25), (⟨"SeasonBoundModel", "judged", "(I)I"⟩, 25), (⟨"SeasonBoundModel", "findOdds", "(IIII)V"⟩, 25), (⟨"SeasonBoundModel", "which", "(II)I"⟩, 25), (⟨"SeasonBoundModel", "isSoWith", "(II)Z"⟩, 25), (⟨"SeasonBoundModel", "copies", "(II)V"⟩, 25)]
theorem lw_r4 : ∀ q ∈ lw_privs_4, lw_okq q := List.forall_mem_cons.mpr ⟨lw_p48, List.forall_mem_cons.mpr ⟨lw_p49, List.forall_mem_cons.mpr ⟨lw_p50, List.forall_mem_cons.mpr ⟨lw_p51, List.forall_mem_cons.mpr ⟨lw_p52, List.forall_mem_cons.mpr ⟨lw_p53, List.forall_mem_cons.mpr ⟨lw_p54, List.forall_mem_cons.mpr ⟨lw_p55, List.forall_mem_cons.mpr ⟨lw_p56, List.forall_mem_cons.mpr ⟨lw_p57, fun _ h => absurd h List.not_mem_nil⟩⟩⟩⟩⟩⟩⟩⟩⟩⟩
def lw_privs : List (MethodName × Nat) := lw_privs_1 ++ (lw_privs_2 ++ (lw_privs_3 ++ (lw_privs_4)))
def lw_tbl : List Cond := k2_sels lw_privs ++ tables_1
theorem lw_privs_ok : ∀ q ∈ lw_privs, lw_okq q := by
  show ∀ q ∈ lw_privs_1 ++ (lw_privs_2 ++ (lw_privs_3 ++ (lw_privs_4))), lw_okq q
  exact List.forall_mem_append.mpr ⟨lw_r1, List.forall_mem_append.mpr ⟨lw_r2, List.forall_mem_append.mpr ⟨lw_r3, lw_r4⟩⟩⟩
end
section
def RX0 : String := "SeasonBound$Best"
def TX0 : u_T := fun k => match k with
  | 0 => ("SeasonBound$Best", "which", "I", false)
  | _ => ("SeasonBound$Best", "most", "I", false)
def tyX0 : Nat → FieldType := fun k => match k with
  | 0 => .int
  | _ => .int
theorem nmX0 : ∀ a, a < 2 → ∀ b, b < 2 → a ≠ b → (TX0 a).2.1 ≠ (TX0 b).2.1 := by decide +kernel
theorem tyX0_ok : ∀ k, k < 2 → parseFieldDescriptor (TX0 k).2.2.1 = some (tyX0 k) := by decide +kernel
abbrev cX0_init : ByteArray := prog_2_method_1_code
def yX0_init : MethodName := ⟨RX0, "<init>", "()V"⟩
abbrev cX0_seekAbove : ByteArray := prog_2_method_2_code
def yX0_seekAbove : MethodName := ⟨RX0, "seekAbove", "(I)V"⟩
abbrev cX0_offer : ByteArray := prog_2_method_3_code
def yX0_offer : MethodName := ⟨RX0, "offer", "(II)V"⟩
abbrev cX0_told : ByteArray := prog_2_method_4_code
def yX0_told : MethodName := ⟨RX0, "told", "(I)I"⟩
def RX1 : String := "SeasonBound$Child"
def TX1 : u_T := fun k => match k with
  | 0 => ("SeasonBound$Child", "kind", "I", false)
  | 1 => ("SeasonBound$Child", "season", "I", false)
  | 2 => ("SeasonBound$Child", "term", "I", false)
  | 3 => ("SeasonBound$Child", "skill", "I", false)
  | _ => ("SeasonBound$Child", "age", "I", false)
def tyX1 : Nat → FieldType := fun k => match k with
  | 0 => .int
  | 1 => .int
  | 2 => .int
  | 3 => .int
  | _ => .int
theorem nmX1 : ∀ a, a < 5 → ∀ b, b < 5 → a ≠ b → (TX1 a).2.1 ≠ (TX1 b).2.1 := by decide +kernel
theorem tyX1_ok : ∀ k, k < 5 → parseFieldDescriptor (TX1 k).2.2.1 = some (tyX1 k) := by decide +kernel
abbrev cX1_init : ByteArray := prog_3_method_1_code
def yX1_init : MethodName := ⟨RX1, "<init>", "()V"⟩
abbrev cX1_renew : ByteArray := prog_3_method_2_code
def yX1_renew : MethodName := ⟨RX1, "renew", "(I)V"⟩
abbrev cX1_copy : ByteArray := prog_3_method_3_code
def yX1_copy : MethodName := ⟨RX1, "copy", "(LSeasonBound$Child;)V"⟩
abbrev cX1_isFree : ByteArray := prog_3_method_4_code
def yX1_isFree : MethodName := ⟨RX1, "isFree", "()Z"⟩
abbrev cX1_isBoundTo : ByteArray := prog_3_method_5_code
def yX1_isBoundTo : MethodName := ⟨RX1, "isBoundTo", "(I)Z"⟩
abbrev cX1_livesIn : ByteArray := prog_3_method_6_code
def yX1_livesIn : MethodName := ⟨RX1, "livesIn", "(I)Z"⟩
abbrev cX1_liveWeekOf : ByteArray := prog_3_method_7_code
def yX1_liveWeekOf : MethodName := ⟨RX1, "liveWeekOf", "(LSeasonBound$Season;)V"⟩
def RX2 : String := "SeasonBound$Odds"
def TX2 : u_T := fun k => match k with
  | _ => ("SeasonBound$Odds", "ways", "[J", true)
def tyX2 : Nat → FieldType := fun k => match k with
  | _ => .array .long
theorem nmX2 : ∀ a, a < 1 → ∀ b, b < 1 → a ≠ b → (TX2 a).2.1 ≠ (TX2 b).2.1 := by decide +kernel
theorem tyX2_ok : ∀ k, k < 1 → parseFieldDescriptor (TX2 k).2.2.1 = some (tyX2 k) := by decide +kernel
abbrev cX2_init : ByteArray := prog_4_method_1_code
def yX2_init : MethodName := ⟨RX2, "<init>", "()V"⟩
abbrev cX2_spread : ByteArray := prog_4_method_2_code
def yX2_spread : MethodName := ⟨RX2, "spread", "(II)V"⟩
abbrev cX2_of : ByteArray := prog_4_method_3_code
def yX2_of : MethodName := ⟨RX2, "of", "(I)J"⟩
def RX3 : String := "SeasonBound$Reader"
def TX3 : u_T := fun k => match k with
  | 0 => ("SeasonBound$Reader", "tape", "LSeasonBound$Tape;", true)
  | 1 => ("SeasonBound$Reader", "into", "LSeasonBound$World;", true)
  | 2 => ("SeasonBound$Reader", "toldSeasons", "I", false)
  | 3 => ("SeasonBound$Reader", "fault", "I", false)
  | _ => ("SeasonBound$Reader", "place", "I", false)
def tyX3 : Nat → FieldType := fun k => match k with
  | 0 => .object "SeasonBound$Tape"
  | 1 => .object "SeasonBound$World"
  | 2 => .int
  | 3 => .int
  | _ => .int
theorem nmX3 : ∀ a, a < 5 → ∀ b, b < 5 → a ≠ b → (TX3 a).2.1 ≠ (TX3 b).2.1 := by decide +kernel
theorem tyX3_ok : ∀ k, k < 5 → parseFieldDescriptor (TX3 k).2.2.1 = some (tyX3 k) := by decide +kernel
abbrev cX3_init : ByteArray := prog_5_method_1_code
def yX3_init : MethodName := ⟨RX3, "<init>", "(LSeasonBound$Tape;LSeasonBound$World;)V"⟩
abbrev cX3_readAll : ByteArray := prog_5_method_2_code
def yX3_readAll : MethodName := ⟨RX3, "readAll", "()I"⟩
abbrev cX3_readLine : ByteArray := prog_5_method_3_code
def yX3_readLine : MethodName := ⟨RX3, "readLine", "()Z"⟩
abbrev cX3_nameOf : ByteArray := prog_5_method_4_code
def yX3_nameOf : MethodName := ⟨RX3, "nameOf", "(I)Ljava/lang/String;"⟩
abbrev cX3_readSeason : ByteArray := prog_5_method_5_code
def yX3_readSeason : MethodName := ⟨RX3, "readSeason", "(I)Z"⟩
abbrev cX3_readChild : ByteArray := prog_5_method_6_code
def yX3_readChild : MethodName := ⟨RX3, "readChild", "(I)Z"⟩
abbrev cX3_readNumber : ByteArray := prog_5_method_7_code
def yX3_readNumber : MethodName := ⟨RX3, "readNumber", "(II)Z"⟩
abbrev cX3_readStop : ByteArray := prog_5_method_8_code
def yX3_readStop : MethodName := ⟨RX3, "readStop", "()Z"⟩
abbrev cX3_failAtToken : ByteArray := prog_5_method_9_code
def yX3_failAtToken : MethodName := ⟨RX3, "failAtToken", "()Z"⟩
abbrev cX3_fail : ByteArray := prog_5_method_10_code
def yX3_fail : MethodName := ⟨RX3, "fail", "(I)Z"⟩
def RX4 : String := "SeasonBound$Season"
def TX4 : u_T := fun k => match k with
  | 0 => ("SeasonBound$Season", "length", "I", false)
  | 1 => ("SeasonBound$Season", "gift", "I", false)
  | _ => ("SeasonBound$Season", "most", "I", false)
def tyX4 : Nat → FieldType := fun k => match k with
  | 0 => .int
  | 1 => .int
  | _ => .int
theorem nmX4 : ∀ a, a < 3 → ∀ b, b < 3 → a ≠ b → (TX4 a).2.1 ≠ (TX4 b).2.1 := by decide +kernel
theorem tyX4_ok : ∀ k, k < 3 → parseFieldDescriptor (TX4 k).2.2.1 = some (tyX4 k) := by decide +kernel
abbrev cX4_init : ByteArray := prog_6_method_1_code
def yX4_init : MethodName := ⟨RX4, "<init>", "()V"⟩
abbrev cX4_renew : ByteArray := prog_6_method_2_code
def yX4_renew : MethodName := ⟨RX4, "renew", "()V"⟩
abbrev cX4_copy : ByteArray := prog_6_method_3_code
def yX4_copy : MethodName := ⟨RX4, "copy", "(LSeasonBound$Season;)V"⟩
def RX5 : String := "SeasonBound$Sheet"
def TX5 : u_T := fun k => match k with
  | 0 => ("SeasonBound$Sheet", "cells", "[I", true)
  | 1 => ("SeasonBound$Sheet", "lane", "I", false)
  | _ => ("SeasonBound$Sheet", "size", "I", false)
def tyX5 : Nat → FieldType := fun k => match k with
  | 0 => .array .int
  | 1 => .int
  | _ => .int
theorem nmX5 : ∀ a, a < 3 → ∀ b, b < 3 → a ≠ b → (TX5 a).2.1 ≠ (TX5 b).2.1 := by decide +kernel
theorem tyX5_ok : ∀ k, k < 3 → parseFieldDescriptor (TX5 k).2.2.1 = some (tyX5 k) := by decide +kernel
abbrev cX5_init : ByteArray := prog_7_method_1_code
def yX5_init : MethodName := ⟨RX5, "<init>", "()V"⟩
abbrev cX5_renew : ByteArray := prog_7_method_2_code
def yX5_renew : MethodName := ⟨RX5, "renew", "(II)V"⟩
abbrev cX5_isNothing : ByteArray := prog_7_method_3_code
def yX5_isNothing : MethodName := ⟨RX5, "isNothing", "()Z"⟩
abbrev cX5_faultIn : ByteArray := prog_7_method_4_code
def yX5_faultIn : MethodName := ⟨RX5, "faultIn", "(III)I"⟩
abbrev cX5_put : ByteArray := prog_7_method_5_code
def yX5_put : MethodName := ⟨RX5, "put", "(II)V"⟩
def RX6 : String := "SeasonBound$Tape"
def TX6 : u_T := fun k => match k with
  | 0 => ("SeasonBound$Tape", "bytes", "[B", true)
  | 1 => ("SeasonBound$Tape", "size", "I", false)
  | 2 => ("SeasonBound$Tape", "token", "I", false)
  | 3 => ("SeasonBound$Tape", "start", "I", false)
  | 4 => ("SeasonBound$Tape", "value", "I", false)
  | _ => ("SeasonBound$Tape", "next", "I", false)
def tyX6 : Nat → FieldType := fun k => match k with
  | 0 => .array .byte
  | 1 => .int
  | 2 => .int
  | 3 => .int
  | 4 => .int
  | _ => .int
theorem nmX6 : ∀ a, a < 6 → ∀ b, b < 6 → a ≠ b → (TX6 a).2.1 ≠ (TX6 b).2.1 := by decide +kernel
theorem tyX6_ok : ∀ k, k < 6 → parseFieldDescriptor (TX6 k).2.2.1 = some (tyX6 k) := by decide +kernel
abbrev cX6_init : ByteArray := prog_8_method_1_code
def yX6_init : MethodName := ⟨RX6, "<init>", "()V"⟩
abbrev cX6_append : ByteArray := prog_8_method_2_code
def yX6_append : MethodName := ⟨RX6, "append", "(I)V"⟩
abbrev cX6_rewind : ByteArray := prog_8_method_3_code
def yX6_rewind : MethodName := ⟨RX6, "rewind", "()V"⟩
abbrev cX6_readToken : ByteArray := prog_8_method_4_code
def yX6_readToken : MethodName := ⟨RX6, "readToken", "()V"⟩
abbrev cX6_readName : ByteArray := prog_8_method_5_code
def yX6_readName : MethodName := ⟨RX6, "readName", "()V"⟩
abbrev cX6_readNumber : ByteArray := prog_8_method_6_code
def yX6_readNumber : MethodName := ⟨RX6, "readNumber", "()V"⟩
abbrev cX6_isNamed : ByteArray := prog_8_method_7_code
def yX6_isNamed : MethodName := ⟨RX6, "isNamed", "(Ljava/lang/String;)Z"⟩
abbrev cX6_isLetter : ByteArray := prog_8_method_8_code
def yX6_isLetter : MethodName := ⟨RX6, "isLetter", "(I)Z"⟩
abbrev cX6_isFigure : ByteArray := prog_8_method_9_code
def yX6_isFigure : MethodName := ⟨RX6, "isFigure", "(I)Z"⟩
def RX7 : String := "SeasonBound$World"
def TX7 : u_T := fun k => match k with
  | 0 => ("SeasonBound$World", "seasons", "[LSeasonBound$Season;", true)
  | 1 => ("SeasonBound$World", "children", "[LSeasonBound$Child;", true)
  | 2 => ("SeasonBound$World", "size", "I", false)
  | 3 => ("SeasonBound$World", "now", "I", false)
  | 4 => ("SeasonBound$World", "left", "I", false)
  | 5 => ("SeasonBound$World", "week", "I", false)
  | 6 => ("SeasonBound$World", "seenBehind", "[I", true)
  | 7 => ("SeasonBound$World", "seenChild", "[I", true)
  | 8 => ("SeasonBound$World", "seenSkill", "[I", true)
  | _ => ("SeasonBound$World", "seen", "I", false)
def tyX7 : Nat → FieldType := fun k => match k with
  | 0 => .array (.object "SeasonBound$Season")
  | 1 => .array (.object "SeasonBound$Child")
  | 2 => .int
  | 3 => .int
  | 4 => .int
  | 5 => .int
  | 6 => .array .int
  | 7 => .array .int
  | 8 => .array .int
  | _ => .int
theorem nmX7 : ∀ a, a < 10 → ∀ b, b < 10 → a ≠ b → (TX7 a).2.1 ≠ (TX7 b).2.1 := by decide +kernel
theorem tyX7_ok : ∀ k, k < 10 → parseFieldDescriptor (TX7 k).2.2.1 = some (tyX7 k) := by decide +kernel
abbrev cX7_init : ByteArray := prog_9_method_1_code
def yX7_init : MethodName := ⟨RX7, "<init>", "()V"⟩
abbrev cX7_renew : ByteArray := prog_9_method_2_code
def yX7_renew : MethodName := ⟨RX7, "renew", "()V"⟩
abbrev cX7_beginAtSpring : ByteArray := prog_9_method_3_code
def yX7_beginAtSpring : MethodName := ⟨RX7, "beginAtSpring", "()V"⟩
abbrev cX7_copy : ByteArray := prog_9_method_4_code
def yX7_copy : MethodName := ⟨RX7, "copy", "(LSeasonBound$World;)V"⟩
abbrev cX7_has : ByteArray := prog_9_method_5_code
def yX7_has : MethodName := ⟨RX7, "has", "(I)Z"⟩
abbrev cX7_add : ByteArray := prog_9_method_6_code
def yX7_add : MethodName := ⟨RX7, "add", "(I)V"⟩
abbrev cX7_apprentice : ByteArray := prog_9_method_7_code
def yX7_apprentice : MethodName := ⟨RX7, "apprentice", "(III)I"⟩
abbrev cX7_pass : ByteArray := prog_9_method_8_code
def yX7_pass : MethodName := ⟨RX7, "pass", "(I)V"⟩
abbrev cX7_passOne : ByteArray := prog_9_method_9_code
def yX7_passOne : MethodName := ⟨RX7, "passOne", "()V"⟩
abbrev cX7_note : ByteArray := prog_9_method_10_code
def yX7_note : MethodName := ⟨RX7, "note", "(III)V"⟩
abbrev cX7_comesAsSeen : ByteArray := prog_9_method_11_code
def yX7_comesAsSeen : MethodName := ⟨RX7, "comesAsSeen", "()Z"⟩
abbrev cX7_lastSeen : ByteArray := prog_9_method_12_code
def yX7_lastSeen : MethodName := ⟨RX7, "lastSeen", "()I"⟩
abbrev cX7_isAsSeen : ByteArray := prog_9_method_13_code
def yX7_isAsSeen : MethodName := ⟨RX7, "isAsSeen", "(I)Z"⟩
abbrev cX7_skillBehindLessons : ByteArray := prog_9_method_14_code
def yX7_skillBehindLessons : MethodName := ⟨RX7, "skillBehindLessons", "(II)I"⟩
abbrev cX7_living : ByteArray := prog_9_method_15_code
def yX7_living : MethodName := ⟨RX7, "living", "()I"⟩
abbrev cX7_freeOnes : ByteArray := prog_9_method_16_code
def yX7_freeOnes : MethodName := ⟨RX7, "freeOnes", "()I"⟩
abbrev cX7_boundTo : ByteArray := prog_9_method_17_code
def yX7_boundTo : MethodName := ⟨RX7, "boundTo", "(I)I"⟩
abbrev cX7_skillSum : ByteArray := prog_9_method_18_code
def yX7_skillSum : MethodName := ⟨RX7, "skillSum", "()I"⟩
abbrev cX7_ageSum : ByteArray := prog_9_method_19_code
def yX7_ageSum : MethodName := ⟨RX7, "ageSum", "()I"⟩
abbrev cX7_termSum : ByteArray := prog_9_method_20_code
def yX7_termSum : MethodName := ⟨RX7, "termSum", "()I"⟩
abbrev cX7_lengthSum : ByteArray := prog_9_method_21_code
def yX7_lengthSum : MethodName := ⟨RX7, "lengthSum", "()I"⟩
def RX8 : String := "SeasonBound"
def TX8 : u_T := fun k => match k with
  | 0 => ("SeasonBound", "tape", "LSeasonBound$Tape;", true)
  | 1 => ("SeasonBound", "world", "LSeasonBound$World;", true)
  | 2 => ("SeasonBound", "trial", "LSeasonBound$World;", true)
  | 3 => ("SeasonBound", "reader", "LSeasonBound$Reader;", true)
  | 4 => ("SeasonBound", "images", "[LSeasonBound$World;", true)
  | 5 => ("SeasonBound", "kept", "[Z", true)
  | 6 => ("SeasonBound", "sheets", "[LSeasonBound$Sheet;", true)
  | 7 => ("SeasonBound", "best", "LSeasonBound$Best;", true)
  | 8 => ("SeasonBound", "odds", "LSeasonBound$Odds;", true)
  | 9 => ("SeasonBound", "latestFault", "I", false)
  | _ => ("SeasonBound", "latestTorn", "I", false)
def tyX8 : Nat → FieldType := fun k => match k with
  | 0 => .object "SeasonBound$Tape"
  | 1 => .object "SeasonBound$World"
  | 2 => .object "SeasonBound$World"
  | 3 => .object "SeasonBound$Reader"
  | 4 => .array (.object "SeasonBound$World")
  | 5 => .array .boolean
  | 6 => .array (.object "SeasonBound$Sheet")
  | 7 => .object "SeasonBound$Best"
  | 8 => .object "SeasonBound$Odds"
  | 9 => .int
  | _ => .int
theorem nmX8 : ∀ a, a < 11 → ∀ b, b < 11 → a ≠ b → (TX8 a).2.1 ≠ (TX8 b).2.1 := by decide +kernel
theorem tyX8_ok : ∀ k, k < 11 → parseFieldDescriptor (TX8 k).2.2.1 = some (tyX8 k) := by decide +kernel
abbrev cX8_init : ByteArray := prog_1_method_1_code
def yX8_init : MethodName := ⟨RX8, "<init>", "()V"⟩
abbrev cX8_feed : ByteArray := prog_1_method_2_code
def yX8_feed : MethodName := ⟨RX8, "feed", "(I)I"⟩
abbrev cX8_end : ByteArray := prog_1_method_3_code
def yX8_end : MethodName := ⟨RX8, "end", "(I)I"⟩
abbrev cX8_text : ByteArray := prog_1_method_4_code
def yX8_text : MethodName := ⟨RX8, "text", "()I"⟩
abbrev cX8_fault : ByteArray := prog_1_method_5_code
def yX8_fault : MethodName := ⟨RX8, "fault", "()I"⟩
abbrev cX8_rule : ByteArray := prog_1_method_6_code
def yX8_rule : MethodName := ⟨RX8, "rule", "(I)I"⟩
abbrev cX8_child : ByteArray := prog_1_method_7_code
def yX8_child : MethodName := ⟨RX8, "child", "(II)I"⟩
abbrev cX8_season : ByteArray := prog_1_method_8_code
def yX8_season : MethodName := ⟨RX8, "season", "(II)I"⟩
abbrev cX8_alter : ByteArray := prog_1_method_9_code
def yX8_alter : MethodName := ⟨RX8, "alter", "(III)I"⟩
abbrev cX8_set : ByteArray := prog_1_method_10_code
def yX8_set : MethodName := ⟨RX8, "set", "(III)I"⟩
abbrev cX8_bind : ByteArray := prog_1_method_11_code
def yX8_bind : MethodName := ⟨RX8, "bind", "(III)I"⟩
abbrev cX8_free : ByteArray := prog_1_method_12_code
def yX8_free : MethodName := ⟨RX8, "free", "(I)I"⟩
abbrev cX8_born : ByteArray := prog_1_method_13_code
def yX8_born : MethodName := ⟨RX8, "born", "(I)I"⟩
abbrev cX8_weeks : ByteArray := prog_1_method_14_code
def yX8_weeks : MethodName := ⟨RX8, "weeks", "(I)I"⟩
abbrev cX8_runs : ByteArray := prog_1_method_15_code
def yX8_runs : MethodName := ⟨RX8, "runs", "(II)I"⟩
abbrev cX8_ahead : ByteArray := prog_1_method_16_code
def yX8_ahead : MethodName := ⟨RX8, "ahead", "(III)I"⟩
abbrev cX8_home : ByteArray := prog_1_method_17_code
def yX8_home : MethodName := ⟨RX8, "home", "(I)I"⟩
abbrev cX8_meet : ByteArray := prog_1_method_18_code
def yX8_meet : MethodName := ⟨RX8, "meet", "(II)I"⟩
abbrev cX8_place : ByteArray := prog_1_method_19_code
def yX8_place : MethodName := ⟨RX8, "place", "(III)I"⟩
abbrev cX8_swap : ByteArray := prog_1_method_20_code
def yX8_swap : MethodName := ⟨RX8, "swap", "(II)I"⟩
abbrev cX8_skillsIfSwapped : ByteArray := prog_1_method_21_code
def yX8_skillsIfSwapped : MethodName := ⟨RX8, "skillsIfSwapped", "(III)I"⟩
abbrev cX8_span : ByteArray := prog_1_method_22_code
def yX8_span : MethodName := ⟨RX8, "span", "(III)I"⟩
abbrev cX8_gift : ByteArray := prog_1_method_23_code
def yX8_gift : MethodName := ⟨RX8, "gift", "(II)I"⟩
abbrev cX8_term : ByteArray := prog_1_method_24_code
def yX8_term : MethodName := ⟨RX8, "term", "(III)I"⟩
abbrev cX8_kind : ByteArray := prog_1_method_25_code
def yX8_kind : MethodName := ⟨RX8, "kind", "(III)I"⟩
abbrev cX8_skillsAsItIs : ByteArray := prog_1_method_26_code
def yX8_skillsAsItIs : MethodName := ⟨RX8, "skillsAsItIs", "(I)I"⟩
abbrev cX8_skillsOfTrial : ByteArray := prog_1_method_27_code
def yX8_skillsOfTrial : MethodName := ⟨RX8, "skillsOfTrial", "(I)I"⟩
abbrev cX8_luck : ByteArray := prog_1_method_28_code
def yX8_luck : MethodName := ⟨RX8, "luck", "(IIIII)J"⟩
abbrev cX8_mean : ByteArray := prog_1_method_29_code
def yX8_mean : MethodName := ⟨RX8, "mean", "(III)J"⟩
abbrev cX8_skillOverLuck : ByteArray := prog_1_method_30_code
def yX8_skillOverLuck : MethodName := ⟨RX8, "skillOverLuck", "(III)J"⟩
abbrev cX8_lessonsInTrial : ByteArray := prog_1_method_31_code
def yX8_lessonsInTrial : MethodName := ⟨RX8, "lessonsInTrial", "(I)I"⟩
abbrev cX8_isLuck : ByteArray := prog_1_method_32_code
def yX8_isLuck : MethodName := ⟨RX8, "isLuck", "(III)Z"⟩
abbrev cX8_powerOfTen : ByteArray := prog_1_method_33_code
def yX8_powerOfTen : MethodName := ⟨RX8, "powerOfTen", "(I)J"⟩
abbrev cX8_partOfFraction : ByteArray := prog_1_method_34_code
def yX8_partOfFraction : MethodName := ⟨RX8, "partOfFraction", "(JJI)J"⟩
abbrev cX8_see : ByteArray := prog_1_method_35_code
def yX8_see : MethodName := ⟨RX8, "see", "(III)I"⟩
abbrev cX8_forget : ByteArray := prog_1_method_36_code
def yX8_forget : MethodName := ⟨RX8, "forget", "(I)I"⟩
abbrev cX8_kinds : ByteArray := prog_1_method_37_code
def yX8_kinds : MethodName := ⟨RX8, "kinds", "(I)I"⟩
abbrev cX8_seasons : ByteArray := prog_1_method_38_code
def yX8_seasons : MethodName := ⟨RX8, "seasons", "(I)I"⟩
abbrev cX8_gifts : ByteArray := prog_1_method_39_code
def yX8_gifts : MethodName := ⟨RX8, "gifts", "(I)I"⟩
abbrev cX8_ask : ByteArray := prog_1_method_40_code
def yX8_ask : MethodName := ⟨RX8, "ask", "(II)I"⟩
abbrev cX8_fittingGifts : ByteArray := prog_1_method_41_code
def yX8_fittingGifts : MethodName := ⟨RX8, "fittingGifts", "(I)I"⟩
abbrev cX8_mostAlike : ByteArray := prog_1_method_42_code
def yX8_mostAlike : MethodName := ⟨RX8, "mostAlike", "(III)I"⟩
abbrev cX8_drift : ByteArray := prog_1_method_43_code
def yX8_drift : MethodName := ⟨RX8, "drift", "(III)I"⟩
abbrev cX8_keep : ByteArray := prog_1_method_44_code
def yX8_keep : MethodName := ⟨RX8, "keep", "(I)I"⟩
abbrev cX8_back : ByteArray := prog_1_method_45_code
def yX8_back : MethodName := ⟨RX8, "back", "(I)I"⟩
abbrev cX8_sheet : ByteArray := prog_1_method_46_code
def yX8_sheet : MethodName := ⟨RX8, "sheet", "(III)I"⟩
abbrev cX8_lay : ByteArray := prog_1_method_47_code
def yX8_lay : MethodName := ⟨RX8, "lay", "(III)I"⟩
abbrev cX8_read : ByteArray := prog_1_method_48_code
def yX8_read : MethodName := ⟨RX8, "read", "(IIII)I"⟩
abbrev cX8_torn : ByteArray := prog_1_method_49_code
def yX8_torn : MethodName := ⟨RX8, "torn", "()I"⟩
abbrev cX8_count : ByteArray := prog_1_method_50_code
def yX8_count : MethodName := ⟨RX8, "count", "(I)I"⟩
abbrev cX8_countKept : ByteArray := prog_1_method_51_code
def yX8_countKept : MethodName := ⟨RX8, "countKept", "()I"⟩
abbrev cX8_within : ByteArray := prog_1_method_52_code
def yX8_within : MethodName := ⟨RX8, "within", "(III)Z"⟩
abbrev cX8_isSeason : ByteArray := prog_1_method_53_code
def yX8_isSeason : MethodName := ⟨RX8, "isSeason", "(I)Z"⟩
abbrev cX8_isKind : ByteArray := prog_1_method_54_code
def yX8_isKind : MethodName := ⟨RX8, "isKind", "(I)Z"⟩
abbrev cX8_isRun : ByteArray := prog_1_method_55_code
def yX8_isRun : MethodName := ⟨RX8, "isRun", "(I)Z"⟩
abbrev cX8_isWhichOrHowMuch : ByteArray := prog_1_method_56_code
def yX8_isWhichOrHowMuch : MethodName := ⟨RX8, "isWhichOrHowMuch", "(I)Z"⟩
abbrev cX8_isImage : ByteArray := prog_1_method_57_code
def yX8_isImage : MethodName := ⟨RX8, "isImage", "(I)Z"⟩
abbrev cX8_isSheet : ByteArray := prog_1_method_58_code
def yX8_isSheet : MethodName := ⟨RX8, "isSheet", "(I)Z"⟩
abbrev cX8_isLane : ByteArray := prog_1_method_59_code
def yX8_isLane : MethodName := ⟨RX8, "isLane", "(I)Z"⟩
abbrev cX8_learns : ByteArray := prog_1_method_60_code
def yX8_learns : MethodName := ⟨RX8, "learns", "(II)I"⟩
abbrev cX8_raised : ByteArray := prog_1_method_61_code
def yX8_raised : MethodName := ⟨RX8, "raised", "(III)I"⟩
def RX9 : String := "SeasonBoundModel"
def TX9 : u_T := fun k => match k with
  | 0 => ("SeasonBoundModel", "st", "[I", true)
  | 1 => ("SeasonBoundModel", "now", "[I", true)
  | 2 => ("SeasonBoundModel", "isKept", "[Z", true)
  | 3 => ("SeasonBoundModel", "draft", "[I", true)
  | 4 => ("SeasonBoundModel", "toldSeasons", "I", false)
  | 5 => ("SeasonBoundModel", "tape", "[I", true)
  | 6 => ("SeasonBoundModel", "taped", "I", false)
  | 7 => ("SeasonBoundModel", "pos", "I", false)
  | 8 => ("SeasonBoundModel", "begun", "I", false)
  | 9 => ("SeasonBoundModel", "sort", "I", false)
  | 10 => ("SeasonBoundModel", "value", "I", false)
  | 11 => ("SeasonBoundModel", "fault", "I", false)
  | 12 => ("SeasonBoundModel", "wrongAt", "I", false)
  | 13 => ("SeasonBoundModel", "bestCode", "I", false)
  | 14 => ("SeasonBoundModel", "bestMuch", "I", false)
  | 15 => ("SeasonBoundModel", "ableSum", "J", false)
  | 16 => ("SeasonBoundModel", "skillSum", "J", false)
  | 17 => ("SeasonBoundModel", "allWays", "J", false)
  | 18 => ("SeasonBoundModel", "skilled", "[I", true)
  | 19 => ("SeasonBoundModel", "byGift", "[I", true)
  | 20 => ("SeasonBoundModel", "lanes", "[I", true)
  | 21 => ("SeasonBoundModel", "sizes", "[I", true)
  | 22 => ("SeasonBoundModel", "cells", "[I", true)
  | 23 => ("SeasonBoundModel", "torn", "I", false)
  | _ => ("SeasonBoundModel", "before", "[I", true)
def tyX9 : Nat → FieldType := fun k => match k with
  | 0 => .array .int
  | 1 => .array .int
  | 2 => .array .boolean
  | 3 => .array .int
  | 4 => .int
  | 5 => .array .int
  | 6 => .int
  | 7 => .int
  | 8 => .int
  | 9 => .int
  | 10 => .int
  | 11 => .int
  | 12 => .int
  | 13 => .int
  | 14 => .int
  | 15 => .long
  | 16 => .long
  | 17 => .long
  | 18 => .array .int
  | 19 => .array .int
  | 20 => .array .int
  | 21 => .array .int
  | 22 => .array .int
  | 23 => .int
  | _ => .array .int
theorem nmX9 : ∀ a, a < 25 → ∀ b, b < 25 → a ≠ b → (TX9 a).2.1 ≠ (TX9 b).2.1 := by decide +kernel
theorem tyX9_ok : ∀ k, k < 25 → parseFieldDescriptor (TX9 k).2.2.1 = some (tyX9 k) := by decide +kernel
abbrev cX9_init : ByteArray := prog_11_method_1_code
def yX9_init : MethodName := ⟨RX9, "<init>", "()V"⟩
abbrev cX9_in : ByteArray := prog_11_method_3_code
def yX9_in : MethodName := ⟨RX9, "in", "(JJJ)Z"⟩
abbrev cX9_flag : ByteArray := prog_11_method_4_code
def yX9_flag : MethodName := ⟨RX9, "flag", "(Z)I"⟩
abbrev cX9_lesser : ByteArray := prog_11_method_5_code
def yX9_lesser : MethodName := ⟨RX9, "lesser", "(II)I"⟩
abbrev cX9_firstDraft : ByteArray := prog_11_method_6_code
def yX9_firstDraft : MethodName := ⟨RX9, "firstDraft", "()V"⟩
abbrev cX9_keepDraft : ByteArray := prog_11_method_7_code
def yX9_keepDraft : MethodName := ⟨RX9, "keepDraft", "()V"⟩
abbrev cX9_feed : ByteArray := prog_11_method_8_code
def yX9_feed : MethodName := ⟨RX9, "feed", "(I)I"⟩
abbrev cX9_end : ByteArray := prog_11_method_9_code
def yX9_end : MethodName := ⟨RX9, "end", "(I)I"⟩
abbrev cX9_needs : ByteArray := prog_11_method_10_code
def yX9_needs : MethodName := ⟨RX9, "needs", "(ZI)V"⟩
abbrev cX9_byteAt : ByteArray := prog_11_method_11_code
def yX9_byteAt : MethodName := ⟨RX9, "byteAt", "(I)I"⟩
abbrev cX9_is : ByteArray := prog_11_method_12_code
def yX9_is : MethodName := ⟨RX9, "is", "(IIIII)Z"⟩
abbrev cX9_ends : ByteArray := prog_11_method_13_code
def yX9_ends : MethodName := ⟨RX9, "ends", "(II)Z"⟩
abbrev cX9_seasonNow : ByteArray := prog_11_method_14_code
def yX9_seasonNow : MethodName := ⟨RX9, "seasonNow", "()I"⟩
abbrev cX9_lineNow : ByteArray := prog_11_method_15_code
def yX9_lineNow : MethodName := ⟨RX9, "lineNow", "()I"⟩
abbrev cX9_reads : ByteArray := prog_11_method_16_code
def yX9_reads : MethodName := ⟨RX9, "reads", "()V"⟩
abbrev cX9_looked : ByteArray := prog_11_method_17_code
def yX9_looked : MethodName := ⟨RX9, "looked", "(II)I"⟩
abbrev cX9_readNumber : ByteArray := prog_11_method_18_code
def yX9_readNumber : MethodName := ⟨RX9, "readNumber", "(II)I"⟩
abbrev cX9_readSeason : ByteArray := prog_11_method_19_code
def yX9_readSeason : MethodName := ⟨RX9, "readSeason", "(I)V"⟩
abbrev cX9_readChild : ByteArray := prog_11_method_20_code
def yX9_readChild : MethodName := ⟨RX9, "readChild", "(I)V"⟩
abbrev cX9_readLine : ByteArray := prog_11_method_21_code
def yX9_readLine : MethodName := ⟨RX9, "readLine", "()V"⟩
abbrev cX9_text : ByteArray := prog_11_method_22_code
def yX9_text : MethodName := ⟨RX9, "text", "()I"⟩
abbrev cX9_fault : ByteArray := prog_11_method_23_code
def yX9_fault : MethodName := ⟨RX9, "fault", "()I"⟩
abbrev cX9_isChild : ByteArray := prog_11_method_24_code
def yX9_isChild : MethodName := ⟨RX9, "isChild", "(I)Z"⟩
abbrev cX9_isSeason : ByteArray := prog_11_method_25_code
def yX9_isSeason : MethodName := ⟨RX9, "isSeason", "(I)Z"⟩
abbrev cX9_isSkill : ByteArray := prog_11_method_26_code
def yX9_isSkill : MethodName := ⟨RX9, "isSkill", "(I)Z"⟩
abbrev cX9_isPart : ByteArray := prog_11_method_27_code
def yX9_isPart : MethodName := ⟨RX9, "isPart", "(I)Z"⟩
abbrev cX9_starts : ByteArray := prog_11_method_28_code
def yX9_starts : MethodName := ⟨RX9, "starts", "()V"⟩
abbrev cX9_settles : ByteArray := prog_11_method_29_code
def yX9_settles : MethodName := ⟨RX9, "settles", "()V"⟩
abbrev cX9_of : ByteArray := prog_11_method_30_code
def yX9_of : MethodName := ⟨RX9, "of", "(II)I"⟩
abbrev cX9_becomesOf : ByteArray := prog_11_method_31_code
def yX9_becomesOf : MethodName := ⟨RX9, "becomesOf", "(III)V"⟩
abbrev cX9_isFree : ByteArray := prog_11_method_32_code
def yX9_isFree : MethodName := ⟨RX9, "isFree", "(I)Z"⟩
abbrev cX9_learns : ByteArray := prog_11_method_33_code
def yX9_learns : MethodName := ⟨RX9, "learns", "(I)I"⟩
abbrev cX9_lives : ByteArray := prog_11_method_34_code
def yX9_lives : MethodName := ⟨RX9, "lives", "(I)Z"⟩
abbrev cX9_livingNow : ByteArray := prog_11_method_35_code
def yX9_livingNow : MethodName := ⟨RX9, "livingNow", "()I"⟩
abbrev cX9_freeNow : ByteArray := prog_11_method_36_code
def yX9_freeNow : MethodName := ⟨RX9, "freeNow", "()I"⟩
abbrev cX9_sumOf : ByteArray := prog_11_method_37_code
def yX9_sumOf : MethodName := ⟨RX9, "sumOf", "(I)I"⟩
abbrev cX9_childGoes : ByteArray := prog_11_method_38_code
def yX9_childGoes : MethodName := ⟨RX9, "childGoes", "(IZ)V"⟩
abbrev cX9_weekGoes : ByteArray := prog_11_method_39_code
def yX9_weekGoes : MethodName := ⟨RX9, "weekGoes", "(Z)V"⟩
abbrev cX9_weeksGo : ByteArray := prog_11_method_40_code
def yX9_weeksGo : MethodName := ⟨RX9, "weeksGo", "(I)V"⟩
abbrev cX9_skillsBehind : ByteArray := prog_11_method_41_code
def yX9_skillsBehind : MethodName := ⟨RX9, "skillsBehind", "(I)I"⟩
abbrev cX9_rule : ByteArray := prog_11_method_42_code
def yX9_rule : MethodName := ⟨RX9, "rule", "(I)I"⟩
abbrev cX9_child : ByteArray := prog_11_method_43_code
def yX9_child : MethodName := ⟨RX9, "child", "(II)I"⟩
abbrev cX9_boundTo : ByteArray := prog_11_method_44_code
def yX9_boundTo : MethodName := ⟨RX9, "boundTo", "(I)I"⟩
abbrev cX9_season : ByteArray := prog_11_method_45_code
def yX9_season : MethodName := ⟨RX9, "season", "(II)I"⟩
abbrev cX9_becomes : ByteArray := prog_11_method_46_code
def yX9_becomes : MethodName := ⟨RX9, "becomes", "(II)I"⟩
abbrev cX9_alter : ByteArray := prog_11_method_47_code
def yX9_alter : MethodName := ⟨RX9, "alter", "(III)I"⟩
abbrev cX9_set : ByteArray := prog_11_method_48_code
def yX9_set : MethodName := ⟨RX9, "set", "(III)I"⟩
abbrev cX9_isBound : ByteArray := prog_11_method_49_code
def yX9_isBound : MethodName := ⟨RX9, "isBound", "(I)Z"⟩
abbrev cX9_bind : ByteArray := prog_11_method_50_code
def yX9_bind : MethodName := ⟨RX9, "bind", "(III)I"⟩
abbrev cX9_free : ByteArray := prog_11_method_51_code
def yX9_free : MethodName := ⟨RX9, "free", "(I)I"⟩
abbrev cX9_born : ByteArray := prog_11_method_52_code
def yX9_born : MethodName := ⟨RX9, "born", "(I)I"⟩
abbrev cX9_weeks : ByteArray := prog_11_method_53_code
def yX9_weeks : MethodName := ⟨RX9, "weeks", "(I)I"⟩
abbrev cX9_isFar : ByteArray := prog_11_method_54_code
def yX9_isFar : MethodName := ⟨RX9, "isFar", "(I)Z"⟩
abbrev cX9_runs : ByteArray := prog_11_method_55_code
def yX9_runs : MethodName := ⟨RX9, "runs", "(II)I"⟩
abbrev cX9_ahead : ByteArray := prog_11_method_56_code
def yX9_ahead : MethodName := ⟨RX9, "ahead", "(III)I"⟩
abbrev cX9_home : ByteArray := prog_11_method_57_code
def yX9_home : MethodName := ⟨RX9, "home", "(I)I"⟩
abbrev cX9_meet : ByteArray := prog_11_method_58_code
def yX9_meet : MethodName := ⟨RX9, "meet", "(II)I"⟩
abbrev cX9_startsJudging : ByteArray := prog_11_method_59_code
def yX9_startsJudging : MethodName := ⟨RX9, "startsJudging", "(I)V"⟩
abbrev cX9_judges : ByteArray := prog_11_method_60_code
def yX9_judges : MethodName := ⟨RX9, "judges", "(II)V"⟩
abbrev cX9_judged : ByteArray := prog_11_method_61_code
def yX9_judged : MethodName := ⟨RX9, "judged", "(I)I"⟩
abbrev cX9_place : ByteArray := prog_11_method_62_code
def yX9_place : MethodName := ⟨RX9, "place", "(III)I"⟩
abbrev cX9_swap : ByteArray := prog_11_method_63_code
def yX9_swap : MethodName := ⟨RX9, "swap", "(II)I"⟩
abbrev cX9_span : ByteArray := prog_11_method_64_code
def yX9_span : MethodName := ⟨RX9, "span", "(III)I"⟩
abbrev cX9_gift : ByteArray := prog_11_method_65_code
def yX9_gift : MethodName := ⟨RX9, "gift", "(II)I"⟩
abbrev cX9_term : ByteArray := prog_11_method_66_code
def yX9_term : MethodName := ⟨RX9, "term", "(III)I"⟩
abbrev cX9_kind : ByteArray := prog_11_method_67_code
def yX9_kind : MethodName := ⟨RX9, "kind", "(III)I"⟩
abbrev cX9_common : ByteArray := prog_11_method_68_code
def yX9_common : MethodName := ⟨RX9, "common", "(JJ)J"⟩
abbrev cX9_told : ByteArray := prog_11_method_69_code
def yX9_told : MethodName := ⟨RX9, "told", "(JJI)J"⟩
abbrev cX9_findOdds : ByteArray := prog_11_method_70_code
def yX9_findOdds : MethodName := ⟨RX9, "findOdds", "(IIII)V"⟩
abbrev cX9_luck : ByteArray := prog_11_method_71_code
def yX9_luck : MethodName := ⟨RX9, "luck", "(IIIII)J"⟩
abbrev cX9_mean : ByteArray := prog_11_method_72_code
def yX9_mean : MethodName := ⟨RX9, "mean", "(III)J"⟩
abbrev cX9_see : ByteArray := prog_11_method_73_code
def yX9_see : MethodName := ⟨RX9, "see", "(III)I"⟩
abbrev cX9_forget : ByteArray := prog_11_method_74_code
def yX9_forget : MethodName := ⟨RX9, "forget", "(I)I"⟩
abbrev cX9_isSoWith : ByteArray := prog_11_method_75_code
def yX9_isSoWith : MethodName := ⟨RX9, "isSoWith", "(II)Z"⟩
abbrev cX9_which : ByteArray := prog_11_method_76_code
def yX9_which : MethodName := ⟨RX9, "which", "(II)I"⟩
abbrev cX9_kinds : ByteArray := prog_11_method_77_code
def yX9_kinds : MethodName := ⟨RX9, "kinds", "(I)I"⟩
abbrev cX9_seasons : ByteArray := prog_11_method_78_code
def yX9_seasons : MethodName := ⟨RX9, "seasons", "(I)I"⟩
abbrev cX9_gifts : ByteArray := prog_11_method_79_code
def yX9_gifts : MethodName := ⟨RX9, "gifts", "(I)I"⟩
abbrev cX9_ask : ByteArray := prog_11_method_80_code
def yX9_ask : MethodName := ⟨RX9, "ask", "(II)I"⟩
abbrev cX9_drift : ByteArray := prog_11_method_81_code
def yX9_drift : MethodName := ⟨RX9, "drift", "(III)I"⟩
abbrev cX9_copies : ByteArray := prog_11_method_82_code
def yX9_copies : MethodName := ⟨RX9, "copies", "(II)V"⟩
abbrev cX9_keep : ByteArray := prog_11_method_83_code
def yX9_keep : MethodName := ⟨RX9, "keep", "(I)I"⟩
abbrev cX9_back : ByteArray := prog_11_method_84_code
def yX9_back : MethodName := ⟨RX9, "back", "(I)I"⟩
abbrev cX9_isSheet : ByteArray := prog_11_method_85_code
def yX9_isSheet : MethodName := ⟨RX9, "isSheet", "(II)Z"⟩
abbrev cX9_sheet : ByteArray := prog_11_method_86_code
def yX9_sheet : MethodName := ⟨RX9, "sheet", "(III)I"⟩
abbrev cX9_lay : ByteArray := prog_11_method_87_code
def yX9_lay : MethodName := ⟨RX9, "lay", "(III)I"⟩
abbrev cX9_read : ByteArray := prog_11_method_88_code
def yX9_read : MethodName := ⟨RX9, "read", "(IIII)I"⟩
abbrev cX9_torn : ByteArray := prog_11_method_89_code
def yX9_torn : MethodName := ⟨RX9, "torn", "()I"⟩
abbrev cX9_count : ByteArray := prog_11_method_90_code
def yX9_count : MethodName := ⟨RX9, "count", "(I)I"⟩
def RJx145de : String := "java/io/Serializable"
def TJx145de : u_T := fun k => match k with
  | _ => ("", "", "", false)
def tyJx145de : Nat → FieldType := fun k => match k with
  | _ => .int
theorem nmJx145de : ∀ a, a < 0 → ∀ b, b < 0 → a ≠ b → (TJx145de a).2.1 ≠ (TJx145de b).2.1 := by decide +kernel
theorem tyJx145de_ok : ∀ k, k < 0 → parseFieldDescriptor (TJx145de k).2.2.1 = some (tyJx145de k) := by decide +kernel
def RJx9f9b0 : String := "java/lang/CharSequence"
def TJx9f9b0 : u_T := fun k => match k with
  | _ => ("", "", "", false)
def tyJx9f9b0 : Nat → FieldType := fun k => match k with
  | _ => .int
theorem nmJx9f9b0 : ∀ a, a < 0 → ∀ b, b < 0 → a ≠ b → (TJx9f9b0 a).2.1 ≠ (TJx9f9b0 b).2.1 := by decide +kernel
theorem tyJx9f9b0_ok : ∀ k, k < 0 → parseFieldDescriptor (TJx9f9b0 k).2.2.1 = some (tyJx9f9b0 k) := by decide +kernel
def RJxb160c : String := "java/lang/Comparable"
def TJxb160c : u_T := fun k => match k with
  | _ => ("", "", "", false)
def tyJxb160c : Nat → FieldType := fun k => match k with
  | _ => .int
theorem nmJxb160c : ∀ a, a < 0 → ∀ b, b < 0 → a ≠ b → (TJxb160c a).2.1 ≠ (TJxb160c b).2.1 := by decide +kernel
theorem tyJxb160c_ok : ∀ k, k < 0 → parseFieldDescriptor (TJxb160c k).2.2.1 = some (tyJxb160c k) := by decide +kernel
def RJ6 : String := "java/lang/Integer"
def TJ6 : u_T := fun k => match k with
  | _ => ("", "", "", false)
def tyJ6 : Nat → FieldType := fun k => match k with
  | _ => .int
theorem nmJ6 : ∀ a, a < 0 → ∀ b, b < 0 → a ≠ b → (TJ6 a).2.1 ≠ (TJ6 b).2.1 := by decide +kernel
theorem tyJ6_ok : ∀ k, k < 0 → parseFieldDescriptor (TJ6 k).2.2.1 = some (tyJ6 k) := by decide +kernel
abbrev cJ6_bitCount_0f7a4 : ByteArray := prog_12_method_49_code
def yJ6_bitCount_0f7a4 : MethodName := ⟨RJ6, "bitCount", "(I)I"⟩
def RJ9 : String := "java/lang/Math"
def TJ9 : u_T := fun k => match k with
  | _ => ("", "", "", false)
def tyJ9 : Nat → FieldType := fun k => match k with
  | _ => .int
theorem nmJ9 : ∀ a, a < 0 → ∀ b, b < 0 → a ≠ b → (TJ9 a).2.1 ≠ (TJ9 b).2.1 := by decide +kernel
theorem tyJ9_ok : ∀ k, k < 0 → parseFieldDescriptor (TJ9 k).2.2.1 = some (tyJ9 k) := by decide +kernel
abbrev cJ9_max_7cf53 : ByteArray := prog_13_method_65_code
def yJ9_max_7cf53 : MethodName := ⟨RJ9, "max", "(II)I"⟩
abbrev cJ9_min_7cf53 : ByteArray := prog_13_method_69_code
def yJ9_min_7cf53 : MethodName := ⟨RJ9, "min", "(II)I"⟩
def RJ0 : String := "java/lang/String"
def TJ0 : u_T := fun k => match k with
  | _ => ("", "", "", false)
def tyJ0 : Nat → FieldType := fun k => match k with
  | _ => .int
theorem nmJ0 : ∀ a, a < 0 → ∀ b, b < 0 → a ≠ b → (TJ0 a).2.1 ≠ (TJ0 b).2.1 := by decide +kernel
theorem tyJ0_ok : ∀ k, k < 0 → parseFieldDescriptor (TJ0 k).2.2.1 = some (tyJ0 k) := by decide +kernel
abbrev cJ0_length_8abf5 : ByteArray := prog_14_method_54_code
def yJ0_length_8abf5 : MethodName := ⟨RJ0, "length", "()I"⟩
abbrev cJ0_charAt_5068e : ByteArray := prog_14_method_56_code
def yJ0_charAt_5068e : MethodName := ⟨RJ0, "charAt", "(I)C"⟩
abbrev cJ0_coder_7d493 : ByteArray := prog_14_method_152_code
def yJ0_coder_7d493 : MethodName := ⟨RJ0, "coder", "()B"⟩
abbrev cJ0_isLatin1_aae02 : ByteArray := prog_14_method_154_code
def yJ0_isLatin1_aae02 : MethodName := ⟨RJ0, "isLatin1", "()Z"⟩
abbrev cJ0_checkIndex_df160 : ByteArray := prog_14_method_155_code
def yJ0_checkIndex_df160 : MethodName := ⟨RJ0, "checkIndex", "(II)V"⟩
def RJ1 : String := "java/lang/StringLatin1"
def TJ1 : u_T := fun k => match k with
  | _ => ("", "", "", false)
def tyJ1 : Nat → FieldType := fun k => match k with
  | _ => .int
theorem nmJ1 : ∀ a, a < 0 → ∀ b, b < 0 → a ≠ b → (TJ1 a).2.1 ≠ (TJ1 b).2.1 := by decide +kernel
theorem tyJ1_ok : ∀ k, k < 0 → parseFieldDescriptor (TJ1 k).2.2.1 = some (tyJ1 k) := by decide +kernel
abbrev cJ1_charAt_3b067 : ByteArray := prog_15_method_2_code
def yJ1_charAt_3b067 : MethodName := ⟨RJ1, "charAt", "([BI)C"⟩
def RJ2 : String := "java/lang/StringUTF16"
def TJ2 : u_T := fun k => match k with
  | _ => ("", "", "", false)
def tyJ2 : Nat → FieldType := fun k => match k with
  | _ => .int
theorem nmJ2 : ∀ a, a < 0 → ∀ b, b < 0 → a ≠ b → (TJ2 a).2.1 ≠ (TJ2 b).2.1 := by decide +kernel
theorem tyJ2_ok : ∀ k, k < 0 → parseFieldDescriptor (TJ2 k).2.2.1 = some (tyJ2 k) := by decide +kernel
abbrev cJ2_getChar_3b067 : ByteArray := prog_16_method_5_code
def yJ2_getChar_3b067 : MethodName := ⟨RJ2, "getChar", "([BI)C"⟩
abbrev cJ2_length_9d52b : ByteArray := prog_16_method_6_code
def yJ2_length_9d52b : MethodName := ⟨RJ2, "length", "([B)I"⟩
abbrev cJ2_charAt_3b067 : ByteArray := prog_16_method_83_code
def yJ2_charAt_3b067 : MethodName := ⟨RJ2, "charAt", "([BI)C"⟩
abbrev cJ2_checkIndex_2214a : ByteArray := prog_16_method_91_code
def yJ2_checkIndex_2214a : MethodName := ⟨RJ2, "checkIndex", "(I[B)V"⟩
def RJxfd54e : String := "java/lang/constant/Constable"
def TJxfd54e : u_T := fun k => match k with
  | _ => ("", "", "", false)
def tyJxfd54e : Nat → FieldType := fun k => match k with
  | _ => .int
theorem nmJxfd54e : ∀ a, a < 0 → ∀ b, b < 0 → a ≠ b → (TJxfd54e a).2.1 ≠ (TJxfd54e b).2.1 := by decide +kernel
theorem tyJxfd54e_ok : ∀ k, k < 0 → parseFieldDescriptor (TJxfd54e k).2.2.1 = some (tyJxfd54e k) := by decide +kernel
def RJx3cf43 : String := "java/lang/constant/ConstantDesc"
def TJx3cf43 : u_T := fun k => match k with
  | _ => ("", "", "", false)
def tyJx3cf43 : Nat → FieldType := fun k => match k with
  | _ => .int
theorem nmJx3cf43 : ∀ a, a < 0 → ∀ b, b < 0 → a ≠ b → (TJx3cf43 a).2.1 ≠ (TJx3cf43 b).2.1 := by decide +kernel
theorem tyJx3cf43_ok : ∀ k, k < 0 → parseFieldDescriptor (TJx3cf43 k).2.2.1 = some (tyJx3cf43 k) := by decide +kernel
def RJ7 : String := "java/util/Arrays"
def TJ7 : u_T := fun k => match k with
  | _ => ("", "", "", false)
def tyJ7 : Nat → FieldType := fun k => match k with
  | _ => .int
theorem nmJ7 : ∀ a, a < 0 → ∀ b, b < 0 → a ≠ b → (TJ7 a).2.1 ≠ (TJ7 b).2.1 := by decide +kernel
theorem tyJ7_ok : ∀ k, k < 0 → parseFieldDescriptor (TJ7 k).2.2.1 = some (tyJ7 k) := by decide +kernel
abbrev cJ7_fill_d0a16 : ByteArray := prog_17_method_101_code
def yJ7_fill_d0a16 : MethodName := ⟨RJ7, "fill", "([JJ)V"⟩
abbrev cJ7_fill_53178 : ByteArray := prog_17_method_103_code
def yJ7_fill_53178 : MethodName := ⟨RJ7, "fill", "([II)V"⟩
def RJ3 : String := "jdk/internal/util/Preconditions"
def TJ3 : u_T := fun k => match k with
  | _ => ("", "", "", false)
def tyJ3 : Nat → FieldType := fun k => match k with
  | _ => .int
theorem nmJ3 : ∀ a, a < 0 → ∀ b, b < 0 → a ≠ b → (TJ3 a).2.1 ≠ (TJ3 b).2.1 := by decide +kernel
theorem tyJ3_ok : ∀ k, k < 0 → parseFieldDescriptor (TJ3 k).2.2.1 = some (tyJ3 k) := by decide +kernel
abbrev cJ3_checkIndex_8e157 : ByteArray := prog_18_method_11_code
def yJ3_checkIndex_8e157 : MethodName := ⟨RJ3, "checkIndex", "(IILjava/util/function/BiFunction;)I"⟩
def RL : String := "SeasonBoundLaw"
abbrev cL_law : ByteArray := code
def yL_law : MethodName := ⟨RL, "law", "([I)Z"⟩
/-- the classes whose objects the worlds hold -/
abbrev clsA : List vw_C := [(RX0, TX0, 2), (RX1, TX1, 5), (RX2, TX2, 1), (RX3, TX3, 5), (RX4, TX4, 3), (RX5, TX5, 3), (RX6, TX6, 6), (RX7, TX7, 10), (RX8, TX8, 11), (RX9, TX9, 25)]
/-- the words that every method hands on -/
def TB : List Cond := lw_tbl.filter goodWord
theorem mTB {w : Cond} (i : Nat) (h : tables_1[i]? = some w) (hg : goodWord w = true) : w ∈ TB := List.mem_filter.mpr ⟨List.mem_append_right _ (List.mem_of_getElem? h), hg⟩
theorem mTS {w : Cond} (i : Nat) (h : (k2_sels lw_privs)[i]? = some w) (hg : goodWord w = true) : w ∈ TB := List.mem_filter.mpr ⟨List.mem_append_left _ (List.mem_of_getElem? h), hg⟩
theorem inT0 : ∀ w ∈ u_ws RX0 TX0 2, w ∈ TB := by decide +kernel
theorem inT1 : ∀ w ∈ u_ws RX1 TX1 5, w ∈ TB := by decide +kernel
theorem inT2 : ∀ w ∈ u_ws RX2 TX2 1, w ∈ TB := by decide +kernel
theorem inT3 : ∀ w ∈ u_ws RX3 TX3 5, w ∈ TB := by decide +kernel
theorem inT4 : ∀ w ∈ u_ws RX4 TX4 3, w ∈ TB := by decide +kernel
theorem inT5 : ∀ w ∈ u_ws RX5 TX5 3, w ∈ TB := by decide +kernel
theorem inT6 : ∀ w ∈ u_ws RX6 TX6 6, w ∈ TB := by decide +kernel
theorem inT7 : ∀ w ∈ u_ws RX7 TX7 10, w ∈ TB := by decide +kernel
theorem inT8 : ∀ w ∈ u_ws RX8 TX8 11, w ∈ TB := by decide +kernel
theorem inT9 : ∀ w ∈ u_ws RX9 TX9 25, w ∈ TB := by decide +kernel
theorem inTall : ∀ (ci : Nat) (q : vw_C), clsA[ci]? = some q → ∀ w ∈ u_ws q.1 q.2.1 q.2.2, w ∈ TB := by
  intro ci q h
  match ci, h with
  | 0, h => cases h; exact inT0
  | 1, h => cases h; exact inT1
  | 2, h => cases h; exact inT2
  | 3, h => cases h; exact inT3
  | 4, h => cases h; exact inT4
  | 5, h => cases h; exact inT5
  | 6, h => cases h; exact inT6
  | 7, h => cases h; exact inT7
  | 8, h => cases h; exact inT8
  | 9, h => cases h; exact inT9
  | k + 10, h => simp [clsA] at h
theorem nmAll : ∀ (ci : Nat) (q : vw_C), clsA[ci]? = some q → ∀ a, a < q.2.2 → ∀ b, b < q.2.2 → a ≠ b → (q.2.1 a).2.1 ≠ (q.2.1 b).2.1 := by
  intro ci q h
  match ci, h with
  | 0, h => cases h; exact nmX0
  | 1, h => cases h; exact nmX1
  | 2, h => cases h; exact nmX2
  | 3, h => cases h; exact nmX3
  | 4, h => cases h; exact nmX4
  | 5, h => cases h; exact nmX5
  | 6, h => cases h; exact nmX6
  | 7, h => cases h; exact nmX7
  | 8, h => cases h; exact nmX8
  | 9, h => cases h; exact nmX9
  | k + 10, h => simp [clsA] at h
end
section
/-! ===== the light layer: cells by places, data apart from the make of the cells ===== -/
/-- a cell's make: an object (its class, its fields: a reference, an int, a long) or an array (its type, its length; ints, longs, references) -/
abbrev Ly : Type := (Nat × List (Option Nat ⊕ Bool)) ⊕ (Nat × Nat × (Bool ⊕ List (Option Nat)))
/-- the numbers in the cells: ints (booleans, bytes) and longs, by place and slot -/
abbrev Dt : Type := (Nat → Nat → Int32) × (Nat → Nat → Int64)
/-- classes, array classes, the first address, the strings' addresses -/
abbrev Cx : Type := va_G × (Nat → ClassId) × Nat × (Nat → Nat) × (Nat → Nat)
def tyA : Nat → FieldType := fun k => match k with
  | 0 => .byte
  | 1 => .int
  | 2 => .long
  | 3 => .boolean
  | 4 => .object "SeasonBound$Child"
  | 5 => .object "SeasonBound$Season"
  | 6 => .object "SeasonBound$Sheet"
  | _ => .object "SeasonBound$World"
def tysA (cA : Nat → ClassId) : List (ClassId × FieldType) := [(cA 0, tyA 0), (cA 1, tyA 1), (cA 2, tyA 2), (cA 3, tyA 3), (cA 4, tyA 4), (cA 5, tyA 5), (cA 6, tyA 6), (cA 7, tyA 7)]
theorem tysA_at (cA : Nat → ClassId) (t : Nat) (h : t < 8) : (tysA cA)[t]? = some (cA t, tyA t) := by
  match t, h with
  | 0, _ => rfl
  | 1, _ => rfl
  | 2, _ => rfl
  | 3, _ => rfl
  | 4, _ => rfl
  | 5, _ => rfl
  | 6, _ => rfl
  | 7, _ => rfl
  | t + 8, h => omega
def fvL (b : Nat) (d : Dt) (q k : Nat) : (Option Nat ⊕ Bool) → Value
  | .inl r => va_rf (r.map (fun z => b + z))
  | .inr false => .int (d.1 q k)
  | .inr true => .long (d.2 q k)
def cellL (cA : Nat → ClassId) (b : Nat) (d : Dt) (q : Nat) : Ly → va_E
  | .inl o => .inr (o.1, o.2.mapIdx (fun k x => fvL b d q k x))
  | .inr (t, n, .inl false) => .inl (cA t, n, .inl (d.1 q))
  | .inr (t, n, .inl true) => .inl (cA t, n, .inr (.inl (d.2 q)))
  | .inr (t, n, .inr l) => .inl (cA t, n, .inr (.inr (.inr (.inr (fun j => (l.getD j none).map (fun z => b + z))))))
def wsL (cA : Nat → ClassId) (b : Nat) (Λ : List Ly) (d : Dt) : va_W := Λ.mapIdx (fun q x => (b + q, cellL cA b d q x))
theorem wsL_at {cA : Nat → ClassId} {b : Nat} {Λ : List Ly} {d : Dt} {q : Nat} {x : Ly} (h : Λ[q]? = some x) : (wsL cA b Λ d)[q]? = some (b + q, cellL cA b d q x) := by
  unfold wsL
  rw [List.getElem?_mapIdx, h]
  rfl
theorem wsL_inv {cA : Nat → ClassId} {b : Nat} {Λ : List Ly} {d : Dt} {q : Nat} {y : Nat × va_E} (h : (wsL cA b Λ d)[q]? = some y) : ∃ x, Λ[q]? = some x ∧ y = (b + q, cellL cA b d q x) := by
  unfold wsL at h
  rw [List.getElem?_mapIdx] at h
  cases hx : Λ[q]? with
  | none => rw [hx] at h; cases h
  | some x => rw [hx] at h; exact ⟨x, rfl, (Option.some.inj h).symm⟩
theorem cellL_congr {cA : Nat → ClassId} {b : Nat} {d d' : Dt} {q : Nat} (h1 : d'.1 q = d.1 q) (h2 : d'.2 q = d.2 q) (x : Ly) : cellL cA b d' q x = cellL cA b d q x := by
  have hf : ∀ k y, fvL b d' q k y = fvL b d q k y := by
    intro k y
    rcases y with r | z
    · rfl
    · cases z
      · show Value.int (d'.1 q k) = Value.int (d.1 q k)
        rw [h1]
      · show Value.long (d'.2 q k) = Value.long (d.2 q k)
        rw [h2]
  rcases x with o | ⟨t, n, z | l⟩
  · simp [cellL, hf]
  · cases z
    · simp [cellL, h1]
    · simp [cellL, h2]
  · rfl
theorem wsL_set {cA : Nat → ClassId} {b : Nat} {Λ : List Ly} {d d' : Dt} {q : Nat} {x : Ly} (hx : Λ[q]? = some x) (h1 : ∀ a, a ≠ q → d'.1 a = d.1 a) (h2 : ∀ a, a ≠ q → d'.2 a = d.2 a) : (wsL cA b Λ d).set q (b + q, cellL cA b d' q x) = wsL cA b Λ d' := by
  apply List.ext_getElem?
  intro i
  unfold wsL
  rw [List.getElem?_set, List.length_mapIdx, List.getElem?_mapIdx, List.getElem?_mapIdx]
  by_cases hi : q = i
  · subst hi
    have hl : q < Λ.length := (List.getElem?_eq_some_iff.mp hx).1
    rw [if_pos rfl, if_pos hl, hx]
    rfl
  · rw [if_neg hi]
    cases Λ[i]? with
    | none => rfl
    | some y =>
      show some (b + i, cellL cA b d i y) = some (b + i, cellL cA b d' i y)
      rw [cellL_congr (h1 i (fun h => hi h.symm)) (h2 i (fun h => hi h.symm))]
theorem wsL_D {cA : Nat → ClassId} {b : Nat} {Λ : List Ly} {d : Dt} : va_D (fun q => b ≤ q) (wsL cA b Λ d) := by
  refine ⟨?_, ?_⟩
  · intro i j x y hx hy e
    obtain ⟨_, _, rfl⟩ := wsL_inv hx
    obtain ⟨_, _, rfl⟩ := wsL_inv hy
    exact Nat.add_left_cancel e
  · intro k y hy
    obtain ⟨_, _, rfl⟩ := wsL_inv hy
    exact Nat.le_add_right _ _
/-! what a function reads -/
abbrev inb (i : Int32) (n : Nat) : Prop := ¬ (i < 0 ∨ n ≤ i.toNatClampNeg)
def clsAt (Λ : List Ly) (q : Nat) : Option Nat := match Λ[q]? with
  | some (.inl o) => some o.1
  | _ => none
def rf (Λ : List Ly) (q ci k : Nat) : Option Nat := match Λ[q]? with
  | some (.inl o) => if o.1 = ci then (match o.2[k]? with
    | some (.inl r) => r
    | _ => none) else none
  | _ => none
def okA (Λ : List Ly) (q ti : Nat) (i : Int32) : Bool := match Λ[q]? with
  | some (.inr (t, n, .inl false)) => t == ti && decide (inb i n)
  | _ => false
def okL (Λ : List Ly) (q : Nat) (i : Int32) : Bool := match Λ[q]? with
  | some (.inr (t, n, .inl true)) => t == 2 && decide (inb i n)
  | _ => false
def ra (Λ : List Ly) (q ti : Nat) (i : Int32) : Option Nat := match Λ[q]? with
  | some (.inr (t, n, .inr l)) => if t = ti ∧ inb i n then l.getD i.toNatClampNeg none else none
  | _ => none
def aLn (Λ : List Ly) (q ti : Nat) : Option Nat := match Λ[q]? with
  | some (.inr (t, n, _)) => if t = ti then some n else none
  | _ => none
theorem clsAt_spec {Λ : List Ly} {q ci : Nat} (h : clsAt Λ q = some ci) : ∃ fs, Λ[q]? = some (.inl (ci, fs)) := by
  unfold clsAt at h
  split at h
  · rename_i o ho
    cases h
    exact ⟨o.2, ho⟩
  · cases h
theorem rf_spec {Λ : List Ly} {q ci k r : Nat} (h : rf Λ q ci k = some r) : ∃ fs, Λ[q]? = some (.inl (ci, fs)) ∧ fs[k]? = some (.inl (some r)) := by
  unfold rf at h
  split at h
  · rename_i o ho
    split at h
    · rename_i hc
      split at h
      · rename_i r' hr
        subst h
        subst hc
        exact ⟨o.2, ho, hr⟩
      · cases h
    · cases h
  · cases h
theorem okA_spec {Λ : List Ly} {q ti : Nat} {i : Int32} (h : okA Λ q ti i = true) : ∃ n, Λ[q]? = some (.inr (ti, n, .inl false)) ∧ inb i n := by
  unfold okA at h
  split at h
  · rename_i t n ho
    simp only [Bool.and_eq_true, beq_iff_eq, decide_eq_true_eq] at h
    obtain ⟨rfl, h⟩ := h
    exact ⟨n, ho, h⟩
  · cases h
theorem okL_spec {Λ : List Ly} {q : Nat} {i : Int32} (h : okL Λ q i = true) : ∃ n, Λ[q]? = some (.inr (2, n, .inl true)) ∧ inb i n := by
  unfold okL at h
  split at h
  · rename_i t n ho
    simp only [Bool.and_eq_true, beq_iff_eq, decide_eq_true_eq] at h
    obtain ⟨rfl, h⟩ := h
    exact ⟨n, ho, h⟩
  · cases h
theorem ra_spec {Λ : List Ly} {q ti r : Nat} {i : Int32} (h : ra Λ q ti i = some r) : ∃ n l, Λ[q]? = some (.inr (ti, n, .inr l)) ∧ inb i n ∧ l.getD i.toNatClampNeg none = some r := by
  unfold ra at h
  split at h
  · rename_i t n l ho
    split at h
    · rename_i hc
      obtain ⟨rfl, hc⟩ := hc
      exact ⟨n, l, ho, hc, h⟩
    · cases h
  · cases h
theorem aLn_spec {Λ : List Ly} {q ti n : Nat} (h : aLn Λ q ti = some n) : ∃ z, Λ[q]? = some (.inr (ti, n, z)) := by
  unfold aLn at h
  split at h
  · rename_i t n' z ho
    split at h
    · rename_i hc
      subst hc
      cases h
      exact ⟨z, ho⟩
    · cases h
  · cases h
/-! what a function writes -/
def pI (d : Dt) (q k : Nat) (v : Int32) : Dt := (fun a => if a = q then upd (d.1 q) k v else d.1 a, d.2)
def pJ (d : Dt) (q k : Nat) (v : Int64) : Dt := (d.1, fun a => if a = q then vp_updL (d.2 q) k v else d.2 a)
theorem pI_self {d : Dt} {q k : Nat} {v : Int32} : (pI d q k v).1 q = upd (d.1 q) k v := by simp [pI]
theorem pI_ne {d : Dt} {q k : Nat} {v : Int32} {a : Nat} (h : a ≠ q) : (pI d q k v).1 a = d.1 a := by simp [pI, h]
theorem pJ_self {d : Dt} {q k : Nat} {v : Int64} : (pJ d q k v).2 q = vp_updL (d.2 q) k v := by simp [pJ]
theorem pJ_ne {d : Dt} {q k : Nat} {v : Int64} {a : Nat} (h : a ≠ q) : (pJ d q k v).2 a = d.2 a := by simp [pJ, h]
theorem cellL_pI {cA : Nat → ClassId} {b : Nat} {d : Dt} {q ci k : Nat} {fs : List (Option Nat ⊕ Bool)} {v : Int32} (hk : fs[k]? = some (.inr false)) : cellL cA b (pI d q k v) q (.inl (ci, fs)) = .inr (ci, (fs.mapIdx (fun k x => fvL b d q k x)).set k (.int v)) := by
  show Sum.inr (ci, fs.mapIdx (fun k' x => fvL b (pI d q k v) q k' x)) = _
  congr 2
  apply List.ext_getElem?
  intro i
  rw [List.getElem?_set, List.length_mapIdx, List.getElem?_mapIdx, List.getElem?_mapIdx]
  have hl : k < fs.length := (List.getElem?_eq_some_iff.mp hk).1
  by_cases hi : k = i
  · subst hi
    rw [if_pos rfl, if_pos hl, hk]
    show some (Value.int ((pI d q k v).1 q k)) = _
    rw [pI_self]
    simp [upd]
  · rw [if_neg hi]
    cases fs[i]? with
    | none => rfl
    | some y =>
      show some (fvL b (pI d q k v) q i y) = some (fvL b d q i y)
      rcases y with r | z
      · rfl
      · cases z
        · show some (Value.int ((pI d q k v).1 q i)) = some (Value.int (d.1 q i))
          rw [pI_self]
          have : i ≠ k := fun h => hi h.symm
          simp [upd, this]
        · rfl
theorem cellL_pJ {cA : Nat → ClassId} {b : Nat} {d : Dt} {q ci k : Nat} {fs : List (Option Nat ⊕ Bool)} {v : Int64} (hk : fs[k]? = some (.inr true)) : cellL cA b (pJ d q k v) q (.inl (ci, fs)) = .inr (ci, (fs.mapIdx (fun k x => fvL b d q k x)).set k (.long v)) := by
  show Sum.inr (ci, fs.mapIdx (fun k' x => fvL b (pJ d q k v) q k' x)) = _
  congr 2
  apply List.ext_getElem?
  intro i
  rw [List.getElem?_set, List.length_mapIdx, List.getElem?_mapIdx, List.getElem?_mapIdx]
  have hl : k < fs.length := (List.getElem?_eq_some_iff.mp hk).1
  by_cases hi : k = i
  · subst hi
    rw [if_pos rfl, if_pos hl, hk]
    show some (Value.long ((pJ d q k v).2 q k)) = _
    rw [pJ_self]
    simp [vp_updL]
  · rw [if_neg hi]
    cases fs[i]? with
    | none => rfl
    | some y =>
      show some (fvL b (pJ d q k v) q i y) = some (fvL b d q i y)
      rcases y with r | z
      · rfl
      · cases z
        · rfl
        · show some (Value.long ((pJ d q k v).2 q i)) = some (Value.long (d.2 q i))
          rw [pJ_self]
          have : i ≠ k := fun h => hi h.symm
          simp [vp_updL, this]
/-! the fields' kinds by class -/
def kdF : (Option Nat ⊕ Bool) → Nat
  | .inl _ => 0
  | .inr false => 1
  | .inr true => 2
def shp : Nat → List Nat := fun k => match k with
  | 0 => [1, 1]
  | 1 => [1, 1, 1, 1, 1]
  | 2 => [0]
  | 3 => [0, 0, 1, 1, 1]
  | 4 => [1, 1, 1]
  | 5 => [0, 1, 1]
  | 6 => [0, 1, 1, 1, 1, 1]
  | 7 => [0, 0, 1, 1, 1, 1, 0, 0, 0, 1]
  | 8 => [0, 0, 0, 0, 0, 0, 0, 0, 0, 1, 1]
  | _ => [0, 0, 0, 0, 1, 0, 1, 1, 1, 1, 1, 1, 1, 1, 1, 2, 2, 2, 0, 0, 0, 0, 0, 1, 0]
def nestT : List (String × Nat × MethodName × String) := [("SeasonBound", 9, (⟨"SeasonBound$Tape", "<init>", "()V"⟩ : MethodName), "SeasonBound"),
  ("SeasonBound", 51, (⟨"SeasonBound$Best", "<init>", "()V"⟩ : MethodName), "SeasonBound"),
  ("SeasonBound", 58, (⟨"SeasonBound$Odds", "<init>", "()V"⟩ : MethodName), "SeasonBound"),
  ("SeasonBound", 63, (⟨"SeasonBound$Sheet", "<init>", "()V"⟩ : MethodName), "SeasonBound"),
  ("SeasonBound$Child", 38, (⟨"SeasonBound", "learns", "(II)I"⟩ : MethodName), "SeasonBound"),
  ("SeasonBound$Child", 44, (⟨"SeasonBound", "raised", "(III)I"⟩ : MethodName), "SeasonBound"),
  ("SeasonBound$Odds", 27, (⟨"SeasonBound", "within", "(III)Z"⟩ : MethodName), "SeasonBound"),
  ("SeasonBound$Reader", 114, (⟨"SeasonBound", "isSeason", "(I)Z"⟩ : MethodName), "SeasonBound"),
  ("SeasonBound$Reader", 125, (⟨"SeasonBound", "within", "(III)Z"⟩ : MethodName), "SeasonBound"),
  ("SeasonBound$Sheet", 32, (⟨"SeasonBound", "within", "(III)Z"⟩ : MethodName), "SeasonBound"),
  ("SeasonBound$World", 33, (⟨"SeasonBound$Season", "<init>", "()V"⟩ : MethodName), "SeasonBound"),
  ("SeasonBound$World", 34, (⟨"SeasonBound$Child", "<init>", "()V"⟩ : MethodName), "SeasonBound"),
  ("SeasonBound$World", 68, (⟨"SeasonBound", "within", "(III)Z"⟩ : MethodName), "SeasonBound"),
  ("SeasonBound$World", 79, (⟨"SeasonBound", "isSeason", "(I)Z"⟩ : MethodName), "SeasonBound"),
  ("SeasonBound$World", 132, (⟨"SeasonBound", "learns", "(II)I"⟩ : MethodName), "SeasonBound"),
  ("SeasonBound$World", 138, (⟨"SeasonBound", "raised", "(III)I"⟩ : MethodName), "SeasonBound")]
def strI : List Nat := [70, 72, 74, 76, 78, 80, 82, 84]
def strX : List String := ["spring", "summer", "autumn", "winter", "plain", "quick", "slow", "orphan"]
def strN : List Nat := [6, 6, 6, 6, 5, 5, 4, 6]
def strB : List (List Int32) := [[115, 112, 114, 105, 110, 103], [115, 117, 109, 109, 101, 114], [97, 117, 116, 117, 109, 110], [119, 105, 110, 116, 101, 114], [112, 108, 97, 105, 110], [113, 117, 105, 99, 107], [115, 108, 111, 119], [111, 114, 112, 104, 97, 110]]
end
section
/-! ===== the light layer: context, worlds, contracts, rows ===== -/
def AP (Γ : Cx) : Nat → Prop := fun q => Γ.2.2.1 ≤ q
def WFl (Λ : List Ly) : Prop := ∀ (q ci : Nat) (fs : List (Option Nat ⊕ Bool)), Λ[q]? = some (.inl (ci, fs)) → fs.map kdF = shp ci
def HP (Γ : Cx) (Λ : List Ly) (d : Dt) (H : Heap) : Prop := WFl Λ ∧ va_P Γ.1 clsA (wsL Γ.2.1 Γ.2.2.1 Λ d) H
def KS (Γ : Cx) (U : State) (H : Heap) : Prop := vk_S 8 strN strB Γ.2.2.2.1 Γ.2.2.2.2 (AP Γ) U H ∧ (∀ i : Nat, i < 8 → vk_R "SeasonBound$Reader" (strI.getD i 0) (strX.getD i "") (Γ.2.2.2.1 i) U) ∧ va_Z "java/lang/String" "COMPACT_STRINGS" "Z" (.int 1) (AP Γ) U H ∧ va_Zq "jdk/internal/util/Preconditions" "SIOOBE_FORMATTER" "Ljava/util/function/BiFunction;" (AP Γ) U H
def KP (Γ : Cx) (U : State) : Prop := va_K Γ.1 clsA (tysA Γ.2.1) U ∧ (∀ q ∈ nestT, va_Nw (.methodLinkNest q.1 q.2.1 q.2.2.1 q.2.2.2) U) ∧ KS Γ U U.heap
theorem KP.go {Γ : Cx} {s U : State} {H : Heap} {locs : List Loc} (h : KP Γ s) (hW : s.WarmedH U.vm) (hU : U.heap = H) (hS : va_S (AP Γ) s.heap H locs) : KP Γ U := by
  refine ⟨va_K.moved hW.alike h.1, fun q hq => va_Nw.warmM hW (h.2.1 q hq), ?_⟩
  rw [hU]
  exact ⟨(h.2.2.1.moved hW.alike).kept hS.2.1, fun i hi => (h.2.2.2.1 i hi).warm hW, (h.2.2.2.2.1.moved hW.alike).kept hS.2.1, (h.2.2.2.2.2.moved hW.alike).kept hS.2.1⟩
theorem KP.calling {Γ : Cx} {U : State} (h : KP Γ U) (g : JFrame) (mk : MethodId) (a : Array Value) : KP Γ (U.calling g mk a) :=
  ⟨va_K.moved (u := U) (U := U.calling g mk a) (Vm.Alike.refl U.vm) h.1, fun q hq => va_Nw.same (u := U) (U := U.calling g mk a) rfl rfl (h.2.1 q hq), h.2.2.1.moved (u := U) (U := U.calling g mk a) (Vm.Alike.refl U.vm), fun i hi => vk_R.same (u := U) (U := U.calling g mk a) rfl (h.2.2.2.1 i hi), h.2.2.2.2.1.moved (u := U) (U := U.calling g mk a) (Vm.Alike.refl U.vm), h.2.2.2.2.2.moved (u := U) (U := U.calling g mk a) (Vm.Alike.refl U.vm)⟩
/-- the frame's context -/
def Ct (Γ : Cx) (p : Program) (s : State) (m : MethodId) (args : Array Value) (c : Code) (cc : ByteArray) (nL : Nat) (own : String) : Prop :=
  p.tables.exec = Jvm.exec ∧ c.code = cc ∧ c.maxLocals = nL ∧ s.vm.findClass own = some m.cls ∧ (∀ w ∈ TB, w.before args s = true) ∧ KP Γ s
/-- the heap now, and since the method's start -/
def Hs (Γ : Cx) (Λ : List Ly) (d : Dt) (s : State) (H : Heap) (locs : List Loc) : Prop := HP Γ Λ d H ∧ va_S (AP Γ) s.heap H locs
/-- a method's end -/
def QN (Γ : Cx) (Λ : List Ly) (d : Dt) (rv : Option Value) : Array Value → State → Outcome → State → Prop := fun _ st oc t => (oc = .returned rv ∧ HP Γ Λ d t.heap) ∧ va_F (AP Γ) st t
/-- a method's contract: it makes nothing -/
def Cn (Γ : Cx) (l : Launch) (y : MethodName) (b : ByteArray) (nL : Nat) (ret : Option FieldType) (fr lo : Nat) (As : List Value) (Λ : List Ly) (d : Dt) (rv : Option Value) (d' : Dt) : Prop :=
  Met l y (Cond.code y b nL ret :: TB) { frames := fr, cells := 0, slots := 0, locals := lo } (va_Pc As (fun U => KP Γ U ∧ HP Γ Λ d U.heap)) (QN Γ Λ d' rv) 0 0 (AP Γ)
theorem Cn.of {Γ : Cx} {l : Launch} {y : MethodName} {b : ByteArray} {nL : Nat} {ret : Option FieldType} {fr lo : Nat} {As : List Value} {Λ : List Ly} {d : Dt} {rv : Option Value} {d' : Dt} {own : String} (hy : plainName y.cls = true) (ho : y.cls = own) (hlen : (lg_sl As).length ≤ nL)
    (body : ∀ (p : Program) (e : Env) (s : State) (m : MethodId) (below : List Frame) (meth : Method) (c : Code), Ct Γ p s m As.toArray c b nL own → meth.sig.returnType = ret → meth.locks = false → Hs Γ Λ d s s.heap [] → ∀ ls : Array Slot, lv_has ls nL (lv_args 0 As) →
      W p l e { frames := fr, cells := 0, slots := 0, locals := lo } s m As.toArray below meth c s.heap [] 0 0 (MQ below (QN Γ Λ d' rv) As.toArray s 0 0 (AP Γ)) (F0 m 0 ls [])) : Cn Γ l y b nL ret fr lo As Λ d rv d' := by
  refine Met.ofW (cc := b) (maxL := nL) (ret := ret) hy rfl ?_
  intro p e s m args below meth c s₁ B hml hv
  obtain ⟨rfl, hK, hP⟩ := hv
  have hts := atoms_spec (ws := Cond.code y b nL ret :: TB) B.pre
  have hown : s.vm.findClass own = some m.cls := by rw [← ho]; exact findClass_of_methodNamed B.named
  have hl := lv_entry As (n := nL) hlen
  rw [lg_entry_eq]
  exact body p e s m below meth c ⟨B.exec, B.bytes, hml, hown, fun w h => hts w (List.mem_cons_of_mem _ h), hK⟩ B.returns B.notSynchronized ⟨hP, va_S.rf⟩ _ hl
/-- a field's link -/
def FL (own : String) (idx ci k : Nat) : Prop := ∃ q : vw_C, clsA[ci]? = some q ∧ k < q.2.2 ∧ Cond.fieldLink own idx (q.2.1 k).1 (q.2.1 k).2.1 (q.2.1 k).2.2.1 ∈ TB
/-- .. of a field that may be written -/
def FW (own : String) (idx ci k : Nat) (ty : FieldType) : Prop := FL own idx ci k ∧ ∃ q : vw_C, clsA[ci]? = some q ∧ (q.2.1 k).2.2.2 = false ∧ parseFieldDescriptor (q.2.1 k).2.2.1 = some ty ∧ (∀ j, j < q.2.2 → ∃ z, parseFieldDescriptor (q.2.1 j).2.2.1 = some z)
theorem kd_at {fs : List (Option Nat ⊕ Bool)} {L : List Nat} {k z : Nat} (h : fs.map kdF = L) (hz : L[k]? = some z) : ∃ x, fs[k]? = some x ∧ kdF x = z := by
  subst h
  rw [List.getElem?_map] at hz
  cases hx : fs[k]? with
  | none => rw [hx] at hz; cases hz
  | some x => rw [hx] at hz; exact ⟨x, rfl, Option.some.inj hz⟩
theorem kd1 {x : Option Nat ⊕ Bool} (h : kdF x = 1) : x = .inr false := by
  rcases x with r | z
  · cases h
  · cases z
    · rfl
    · cases h
theorem kd2 {x : Option Nat ⊕ Bool} (h : kdF x = 2) : x = .inr true := by
  rcases x with r | z
  · cases h
  · cases z
    · cases h
    · rfl
section LITE
variable {p : Program} {l : Launch} {e : Env} {R : Room} {s : State} {m : MethodId} {args : Array Value} {below : List Frame} {meth : Method} {c : Code} {H : Heap} {locs : List Loc} {cells slots : Nat} {Q : State → Prop}
variable {cc : ByteArray} {pc nL : Nat} {ls : Array Slot} {rest : List Value} {own : String} {Γ : Cx} {Λ : List Ly} {d : Dt}
theorem r_geti (C0 : Ct Γ p s m args c cc nL own) (h : Hs Γ Λ d s H locs) {q ci k idx : Nat} (fl : FL own idx ci k) (ho : clsAt Λ q = some ci) (hk : (shp ci)[k]? = some 1) (hdg : decode cc pc = .ok (.getfield idx, 3))
    (kk : W p l e R s m args below meth c H locs cells slots Q (F0 m (pc + 3) ls (.int (d.1 q k) :: rest))) : W p l e R s m args below meth c H locs cells slots Q (F0 m pc ls (.ref (Γ.2.2.1 + q) :: rest)) := by
  obtain ⟨hx, hb, hml, hown, hts, hK⟩ := C0
  obtain ⟨⟨hwf, hP⟩, hS⟩ := h
  obtain ⟨fs, hfs⟩ := clsAt_spec ho
  obtain ⟨x, hx1, hx2⟩ := kd_at (hwf q ci fs hfs) hk
  have hx3 := kd1 hx2
  subst hx3
  obtain ⟨⟨C, T, N⟩, hc, hkN, hlink⟩ := fl
  exact va_get (D := Γ.1) (ci := ci) (v := .int (d.1 q k)) (C := C) (T := T) (N := N) hx hb hts (inTall ci _ hc) hown hK.1 hP q (wsL_at hfs) hc k hkN (hts _ hlink) (fun _ h9 => h9) (by rw [List.getElem?_mapIdx, hx1]; rfl) hdg kk
theorem r_getj (C0 : Ct Γ p s m args c cc nL own) (h : Hs Γ Λ d s H locs) {q ci k idx : Nat} (fl : FL own idx ci k) (ho : clsAt Λ q = some ci) (hk : (shp ci)[k]? = some 2) (hdg : decode cc pc = .ok (.getfield idx, 3))
    (kk : W p l e R s m args below meth c H locs cells slots Q (F0 m (pc + 3) ls (.long (d.2 q k) :: rest))) : W p l e R s m args below meth c H locs cells slots Q (F0 m pc ls (.ref (Γ.2.2.1 + q) :: rest)) := by
  obtain ⟨hx, hb, hml, hown, hts, hK⟩ := C0
  obtain ⟨⟨hwf, hP⟩, hS⟩ := h
  obtain ⟨fs, hfs⟩ := clsAt_spec ho
  obtain ⟨x, hx1, hx2⟩ := kd_at (hwf q ci fs hfs) hk
  have hx3 := kd2 hx2
  subst hx3
  obtain ⟨⟨C, T, N⟩, hc, hkN, hlink⟩ := fl
  exact va_get (D := Γ.1) (ci := ci) (v := .long (d.2 q k)) (C := C) (T := T) (N := N) hx hb hts (inTall ci _ hc) hown hK.1 hP q (wsL_at hfs) hc k hkN (hts _ hlink) (fun _ h9 => h9) (by rw [List.getElem?_mapIdx, hx1]; rfl) hdg kk
theorem r_getr (C0 : Ct Γ p s m args c cc nL own) (h : Hs Γ Λ d s H locs) {q ci k idx r : Nat} (fl : FL own idx ci k) (ho : rf Λ q ci k = some r) (hdg : decode cc pc = .ok (.getfield idx, 3))
    (kk : W p l e R s m args below meth c H locs cells slots Q (F0 m (pc + 3) ls (.ref (Γ.2.2.1 + r) :: rest))) : W p l e R s m args below meth c H locs cells slots Q (F0 m pc ls (.ref (Γ.2.2.1 + q) :: rest)) := by
  obtain ⟨hx, hb, hml, hown, hts, hK⟩ := C0
  obtain ⟨⟨hwf, hP⟩, hS⟩ := h
  obtain ⟨fs, hfs, hx1⟩ := rf_spec ho
  obtain ⟨⟨C, T, N⟩, hc, hkN, hlink⟩ := fl
  exact va_get (D := Γ.1) (ci := ci) (v := .ref (Γ.2.2.1 + r)) (C := C) (T := T) (N := N) hx hb hts (inTall ci _ hc) hown hK.1 hP q (wsL_at hfs) hc k hkN (hts _ hlink) (fun _ h9 => h9) (by rw [List.getElem?_mapIdx, hx1]; rfl) hdg kk
theorem hs_set {x : Ly} {q : Nat} {d' : Dt} {H1 : Heap} {locs1 : List Loc} (h : Hs Γ Λ d s H locs) (hx : Λ[q]? = some x) (h1 : ∀ a, a ≠ q → d'.1 a = d.1 a) (h2 : ∀ a, a ≠ q → d'.2 a = d.2 a) (hP : va_P Γ.1 clsA ((wsL Γ.2.1 Γ.2.2.1 Λ d).set q (Γ.2.2.1 + q, cellL Γ.2.1 Γ.2.2.1 d' q x)) H1) (hS : va_S (AP Γ) s.heap H1 locs1) : Hs Γ Λ d' s H1 locs1 := by
  rw [wsL_set hx h1 h2] at hP
  exact ⟨⟨h.1.1, hP⟩, hS⟩
theorem tyOf {q : vw_C} (h : ∀ j, j < q.2.2 → ∃ z, parseFieldDescriptor (q.2.1 j).2.2.1 = some z) : ∃ ty : Nat → FieldType, ∀ j, j < q.2.2 → parseFieldDescriptor (q.2.1 j).2.2.1 = some (ty j) := by
  refine ⟨fun j => (parseFieldDescriptor (q.2.1 j).2.2.1).getD .int, fun j hj => ?_⟩
  obtain ⟨z, hz⟩ := h j hj
  show _ = some ((parseFieldDescriptor (q.2.1 j).2.2.1).getD .int)
  rw [hz]
  rfl
theorem r_puti (C0 : Ct Γ p s m args c cc nL own) (h : Hs Γ Λ d s H locs) {q ci k idx : Nat} {v : Int32} (fw : FW own idx ci k .int) (ho : clsAt Λ q = some ci) (hk : (shp ci)[k]? = some 1) (hdg : decode cc pc = .ok (.putfield idx, 3))
    (kk : ∀ (H : Heap) (locs : List Loc), Hs Γ Λ (pI d q k v) s H locs → W p l e R s m args below meth c H locs cells slots Q (F0 m (pc + 3) ls rest)) : W p l e R s m args below meth c H locs cells slots Q (F0 m pc ls (.int v :: .ref (Γ.2.2.1 + q) :: rest)) := by
  obtain ⟨hx, hb, hml, hown, hts, hK⟩ := C0
  have h' := h
  obtain ⟨⟨hwf, hP⟩, hS⟩ := h
  obtain ⟨fs, hfs⟩ := clsAt_spec ho
  obtain ⟨x, hx1, hx2⟩ := kd_at (hwf q ci fs hfs) hk
  have hx3 := kd1 hx2
  subst hx3
  obtain ⟨fl, q9, hc9, hfin, hty, htys⟩ := fw
  obtain ⟨⟨C, T, N⟩, hc, hkN, hlink⟩ := fl
  cases (hc.symm.trans hc9)
  obtain ⟨ty0, hty0⟩ := tyOf (q := (C, T, N)) htys
  have hl : k < (fs.mapIdx (fun k x => fvL Γ.2.2.1 d q k x)).length := by rw [List.length_mapIdx]; exact (List.getElem?_eq_some_iff.mp hx1).1
  refine va_put (D := Γ.1) (ci := ci) (v := .int v) (ty := .int) (C := C) (T := T) (N := N) (fs := fs.mapIdx (fun k x => fvL Γ.2.2.1 d q k x)) hx hb hts (inTall ci _ hc) ty0 hty0 (nmAll ci _ hc) hown hK.1 hP wsL_D hS q (wsL_at hfs) hc k hkN (hts _ hlink) (fun _ h9 => h9) hfin hty rfl rfl hl hdg (fun H1 locs1 hP1 _ hS1 => kk H1 locs1 (hs_set h' hfs (fun a ha => pI_ne ha) (fun a ha => rfl) ?_ hS1))
  rw [cellL_pI hx1]
  exact hP1
theorem r_putj (C0 : Ct Γ p s m args c cc nL own) (h : Hs Γ Λ d s H locs) {q ci k idx : Nat} {v : Int64} (fw : FW own idx ci k .long) (ho : clsAt Λ q = some ci) (hk : (shp ci)[k]? = some 2) (hdg : decode cc pc = .ok (.putfield idx, 3))
    (kk : ∀ (H : Heap) (locs : List Loc), Hs Γ Λ (pJ d q k v) s H locs → W p l e R s m args below meth c H locs cells slots Q (F0 m (pc + 3) ls rest)) : W p l e R s m args below meth c H locs cells slots Q (F0 m pc ls (.long v :: .ref (Γ.2.2.1 + q) :: rest)) := by
  obtain ⟨hx, hb, hml, hown, hts, hK⟩ := C0
  have h' := h
  obtain ⟨⟨hwf, hP⟩, hS⟩ := h
  obtain ⟨fs, hfs⟩ := clsAt_spec ho
  obtain ⟨x, hx1, hx2⟩ := kd_at (hwf q ci fs hfs) hk
  have hx3 := kd2 hx2
  subst hx3
  obtain ⟨fl, q9, hc9, hfin, hty, htys⟩ := fw
  obtain ⟨⟨C, T, N⟩, hc, hkN, hlink⟩ := fl
  cases (hc.symm.trans hc9)
  obtain ⟨ty0, hty0⟩ := tyOf (q := (C, T, N)) htys
  have hl : k < (fs.mapIdx (fun k x => fvL Γ.2.2.1 d q k x)).length := by rw [List.length_mapIdx]; exact (List.getElem?_eq_some_iff.mp hx1).1
  refine va_put (D := Γ.1) (ci := ci) (v := .long v) (ty := .long) (C := C) (T := T) (N := N) (fs := fs.mapIdx (fun k x => fvL Γ.2.2.1 d q k x)) hx hb hts (inTall ci _ hc) ty0 hty0 (nmAll ci _ hc) hown hK.1 hP wsL_D hS q (wsL_at hfs) hc k hkN (hts _ hlink) (fun _ h9 => h9) hfin hty rfl rfl hl hdg (fun H1 locs1 hP1 _ hS1 => kk H1 locs1 (hs_set h' hfs (fun a ha => rfl) (fun a ha => pJ_ne ha) ?_ hS1))
  rw [cellL_pJ hx1]
  exact hP1
theorem r_iald (C0 : Ct Γ p s m args c cc nL own) (h : Hs Γ Λ d s H locs) {q : Nat} {i : Int32} (ho : okA Λ q 1 i = true) (hdg : decode cc pc = .ok (.iaload, 1))
    (kk : W p l e R s m args below meth c H locs cells slots Q (F0 m (pc + 1) ls (.int (d.1 q i.toNatClampNeg) :: rest))) : W p l e R s m args below meth c H locs cells slots Q (F0 m pc ls (.int i :: .ref (Γ.2.2.1 + q) :: rest)) := by
  obtain ⟨hx, hb, hml, hown, hts, hK⟩ := C0
  obtain ⟨n, hn, hi⟩ := okA_spec ho
  exact va_iald hx hb hK.1 h.1.2 q 1 (wsL_at hn) (tysA_at _ 1 (by decide)) hi hdg kk
theorem r_bald (C0 : Ct Γ p s m args c cc nL own) (h : Hs Γ Λ d s H locs) {q : Nat} {i : Int32} (ho : okA Λ q 0 i = true) (hdg : decode cc pc = .ok (.baload, 1))
    (kk : W p l e R s m args below meth c H locs cells slots Q (F0 m (pc + 1) ls (.int (d.1 q i.toNatClampNeg) :: rest))) : W p l e R s m args below meth c H locs cells slots Q (F0 m pc ls (.int i :: .ref (Γ.2.2.1 + q) :: rest)) := by
  obtain ⟨hx, hb, hml, hown, hts, hK⟩ := C0
  obtain ⟨n, hn, hi⟩ := okA_spec ho
  exact va_bald hx hb hK.1 h.1.2 q 0 (wsL_at hn) (tysA_at _ 0 (by decide)) hi hdg kk
theorem r_zald (C0 : Ct Γ p s m args c cc nL own) (h : Hs Γ Λ d s H locs) {q : Nat} {i : Int32} (ho : okA Λ q 3 i = true) (hdg : decode cc pc = .ok (.baload, 1))
    (kk : W p l e R s m args below meth c H locs cells slots Q (F0 m (pc + 1) ls (.int (d.1 q i.toNatClampNeg) :: rest))) : W p l e R s m args below meth c H locs cells slots Q (F0 m pc ls (.int i :: .ref (Γ.2.2.1 + q) :: rest)) := by
  obtain ⟨hx, hb, hml, hown, hts, hK⟩ := C0
  obtain ⟨n, hn, hi⟩ := okA_spec ho
  exact va_zald hx hb hK.1 h.1.2 q 3 (wsL_at hn) (tysA_at _ 3 (by decide)) hi hdg kk
theorem r_lald (C0 : Ct Γ p s m args c cc nL own) (h : Hs Γ Λ d s H locs) {q : Nat} {i : Int32} (ho : okL Λ q i = true) (hdg : decode cc pc = .ok (.laload, 1))
    (kk : W p l e R s m args below meth c H locs cells slots Q (F0 m (pc + 1) ls (.long (d.2 q i.toNatClampNeg) :: rest))) : W p l e R s m args below meth c H locs cells slots Q (F0 m pc ls (.int i :: .ref (Γ.2.2.1 + q) :: rest)) := by
  obtain ⟨hx, hb, hml, hown, hts, hK⟩ := C0
  obtain ⟨n, hn, hi⟩ := okL_spec ho
  exact va_lald hx hb hK.1 h.1.2 q 2 (wsL_at hn) (tysA_at _ 2 (by decide)) hi hdg kk
theorem r_aald (C0 : Ct Γ p s m args c cc nL own) (h : Hs Γ Λ d s H locs) {q ti r : Nat} {C : String} {i : Int32} (ho : ra Λ q ti i = some r) (ht : ti < 8) (hty : tyA ti = .object C) (hdg : decode cc pc = .ok (.aaload, 1))
    (kk : W p l e R s m args below meth c H locs cells slots Q (F0 m (pc + 1) ls (.ref (Γ.2.2.1 + r) :: rest))) : W p l e R s m args below meth c H locs cells slots Q (F0 m pc ls (.int i :: .ref (Γ.2.2.1 + q) :: rest)) := by
  obtain ⟨hx, hb, hml, hown, hts, hK⟩ := C0
  obtain ⟨n, lst, hn, hi, hr⟩ := ra_spec ho
  refine va_aldq (C := C) hx hb hK.1 h.1.2 q ti (wsL_at hn) (by rw [tysA_at _ ti ht, hty]) hi hdg ?_
  rw [hr]
  exact kk
theorem r_alen (C0 : Ct Γ p s m args c cc nL own) (h : Hs Γ Λ d s H locs) {q ti n : Nat} (ho : aLn Λ q ti = some n) (ht : ti < 8) (hdg : decode cc pc = .ok (.arraylength, 1))
    (kk : W p l e R s m args below meth c H locs cells slots Q (F0 m (pc + 1) ls (.int (Int32.ofNat n) :: rest))) : W p l e R s m args below meth c H locs cells slots Q (F0 m pc ls (.ref (Γ.2.2.1 + q) :: rest)) := by
  obtain ⟨hx, hb, hml, hown, hts, hK⟩ := C0
  obtain ⟨z, hn⟩ := aLn_spec ho
  rcases z with z | lst
  · cases z
    · exact va_alen hx hb hK.1 h.1.2 q ti (wsL_at hn) (tysA_at _ ti ht) rfl hdg kk
    · exact va_alen hx hb hK.1 h.1.2 q ti (wsL_at hn) (tysA_at _ ti ht) rfl hdg kk
  · exact va_alen hx hb hK.1 h.1.2 q ti (wsL_at hn) (tysA_at _ ti ht) rfl hdg kk
theorem r_iast (C0 : Ct Γ p s m args c cc nL own) (h : Hs Γ Λ d s H locs) {q : Nat} {i v : Int32} (ho : okA Λ q 1 i = true) (hdg : decode cc pc = .ok (.iastore, 1))
    (kk : ∀ (H : Heap) (locs : List Loc), Hs Γ Λ (pI d q i.toNatClampNeg v) s H locs → W p l e R s m args below meth c H locs cells slots Q (F0 m (pc + 1) ls rest)) : W p l e R s m args below meth c H locs cells slots Q (F0 m pc ls (.int v :: .int i :: .ref (Γ.2.2.1 + q) :: rest)) := by
  obtain ⟨hx, hb, hml, hown, hts, hK⟩ := C0
  obtain ⟨n, hn, hi⟩ := okA_spec ho
  refine va_iast hx hb hK.1 h.1.2 wsL_D h.2 q 1 (wsL_at hn) (tysA_at _ 1 (by decide)) hi hdg (fun H1 locs1 hP1 _ hS1 => kk H1 locs1 (hs_set h hn (fun a ha => pI_ne ha) (fun a ha => rfl) ?_ hS1))
  show va_P _ _ (List.set _ _ (_, Sum.inl (_, _, Sum.inl ((pI d q i.toNatClampNeg v).1 q)))) _
  rw [pI_self]
  exact hP1
theorem r_bast (C0 : Ct Γ p s m args c cc nL own) (h : Hs Γ Λ d s H locs) {q : Nat} {i v : Int32} (ho : okA Λ q 0 i = true) (hdg : decode cc pc = .ok (.bastore, 1))
    (kk : ∀ (H : Heap) (locs : List Loc), Hs Γ Λ (pI d q i.toNatClampNeg (vp_nar .byte v)) s H locs → W p l e R s m args below meth c H locs cells slots Q (F0 m (pc + 1) ls rest)) : W p l e R s m args below meth c H locs cells slots Q (F0 m pc ls (.int v :: .int i :: .ref (Γ.2.2.1 + q) :: rest)) := by
  obtain ⟨hx, hb, hml, hown, hts, hK⟩ := C0
  obtain ⟨n, hn, hi⟩ := okA_spec ho
  refine va_bast hx hb hK.1 h.1.2 wsL_D h.2 q 0 (wsL_at hn) (tysA_at _ 0 (by decide)) hi hdg (fun H1 locs1 hP1 _ hS1 => kk H1 locs1 (hs_set h hn (fun a ha => pI_ne ha) (fun a ha => rfl) ?_ hS1))
  show va_P _ _ (List.set _ _ (_, Sum.inl (_, _, Sum.inl ((pI d q i.toNatClampNeg (vp_nar .byte v)).1 q)))) _
  rw [pI_self]
  exact hP1
theorem r_zast (C0 : Ct Γ p s m args c cc nL own) (h : Hs Γ Λ d s H locs) {q : Nat} {i v : Int32} (ho : okA Λ q 3 i = true) (hdg : decode cc pc = .ok (.bastore, 1))
    (kk : ∀ (H : Heap) (locs : List Loc), Hs Γ Λ (pI d q i.toNatClampNeg (vp_nar .boolean v)) s H locs → W p l e R s m args below meth c H locs cells slots Q (F0 m (pc + 1) ls rest)) : W p l e R s m args below meth c H locs cells slots Q (F0 m pc ls (.int v :: .int i :: .ref (Γ.2.2.1 + q) :: rest)) := by
  obtain ⟨hx, hb, hml, hown, hts, hK⟩ := C0
  obtain ⟨n, hn, hi⟩ := okA_spec ho
  refine va_zast hx hb hK.1 h.1.2 wsL_D h.2 q 3 (wsL_at hn) (tysA_at _ 3 (by decide)) hi hdg (fun H1 locs1 hP1 _ hS1 => kk H1 locs1 (hs_set h hn (fun a ha => pI_ne ha) (fun a ha => rfl) ?_ hS1))
  show va_P _ _ (List.set _ _ (_, Sum.inl (_, _, Sum.inl ((pI d q i.toNatClampNeg (vp_nar .boolean v)).1 q)))) _
  rw [pI_self]
  exact hP1
theorem r_last (C0 : Ct Γ p s m args c cc nL own) (h : Hs Γ Λ d s H locs) {q : Nat} {i : Int32} {v : Int64} (ho : okL Λ q i = true) (hdg : decode cc pc = .ok (.lastore, 1))
    (kk : ∀ (H : Heap) (locs : List Loc), Hs Γ Λ (pJ d q i.toNatClampNeg v) s H locs → W p l e R s m args below meth c H locs cells slots Q (F0 m (pc + 1) ls rest)) : W p l e R s m args below meth c H locs cells slots Q (F0 m pc ls (.long v :: .int i :: .ref (Γ.2.2.1 + q) :: rest)) := by
  obtain ⟨hx, hb, hml, hown, hts, hK⟩ := C0
  obtain ⟨n, hn, hi⟩ := okL_spec ho
  refine va_last hx hb hK.1 h.1.2 wsL_D h.2 q 2 (wsL_at hn) (tysA_at _ 2 (by decide)) hi hdg (fun H1 locs1 hP1 _ hS1 => kk H1 locs1 (hs_set h hn (fun a ha => rfl) (fun a ha => pJ_ne ha) ?_ hS1))
  show va_P _ _ (List.set _ _ (_, Sum.inl (_, _, Sum.inr (Sum.inl ((pJ d q i.toNatClampNeg v).2 q))))) _
  rw [pJ_self]
  exact hP1
/-! returns -/
theorem r_iret {d' : Dt} {ty : FieldType} (C0 : Ct Γ p s m args c cc nL own) (hr : meth.sig.returnType = some ty) (hlocks : meth.locks = false) (h : Hs Γ Λ d s H locs) {v : Int32} (hn : narrow ty (.int v) = .int v) (hdg : decode cc pc = .ok (.ireturn, 1)) : W p l e R s m args below meth c H locs cells slots (MQ below (QN Γ Λ d (some (.int v))) args s cells slots (AP Γ)) (F0 m pc ls [.int v]) :=
  W.zret C0.1 C0.2.1 hr hn (fun t ht hW => ⟨⟨rfl, by rw [ht]; exact h.1⟩, h.2.F ht⟩) h.2.2.2 hdg hlocks
theorem r_lret (C0 : Ct Γ p s m args c cc nL own) (hr : meth.sig.returnType = some .long) (hlocks : meth.locks = false) (h : Hs Γ Λ d s H locs) {v : Int64} (hdg : decode cc pc = .ok (.lreturn, 1)) : W p l e R s m args below meth c H locs cells slots (MQ below (QN Γ Λ d (some (.long v))) args s cells slots (AP Γ)) (F0 m pc ls [.long v]) :=
  W.lret C0.1 C0.2.1 hr (fun t ht hW => ⟨⟨rfl, by rw [ht]; exact h.1⟩, h.2.F ht⟩) h.2.2.2 hdg hlocks
theorem r_vret (C0 : Ct Γ p s m args c cc nL own) (hr : meth.sig.returnType = none) (hlocks : meth.locks = false) (h : Hs Γ Λ d s H locs) (hdg : decode cc pc = .ok (.return_, 1)) : W p l e R s m args below meth c H locs cells slots (MQ below (QN Γ Λ d none) args s cells slots (AP Γ)) (F0 m pc ls []) :=
  W.vret C0.1 C0.2.1 hr (fun t ht hW => ⟨⟨rfl, by rw [ht]; exact h.1⟩, h.2.F ht⟩) h.2.2.2 hdg hlocks
theorem r_aret {rt : FieldType} (C0 : Ct Γ p s m args c cc nL own) (hr : meth.sig.returnType = some rt) (hrt : (∃ n, rt = .object n) ∨ ∃ t, rt = .array t) (hlocks : meth.locks = false) (h : Hs Γ Λ d s H locs) {a : Nat} (hdg : decode cc pc = .ok (.areturn, 1)) : W p l e R s m args below meth c H locs cells slots (MQ below (QN Γ Λ d (some (.ref a))) args s cells slots (AP Γ)) (F0 m pc ls [.ref a]) :=
  W.aret C0.1 C0.2.1 hr hrt (Or.inr ⟨a, rfl⟩) (fun t ht hW => ⟨⟨rfl, by rw [ht]; exact h.1⟩, h.2.F ht⟩) h.2.2.2 hdg hlocks
/-! calls -/
def yOk (y : MethodName) (n : Nat) : Prop := y.cls ≠ "java/lang/invoke/MethodHandle" ∧ y.cls ≠ "java/lang/invoke/VarHandle" ∧ (parseMethodDescriptor y.desc).map (fun d => d.parameters.length) = some n
/-- a static call's words -/
def CS (own : String) (idx : Nat) (y : MethodName) (b : ByteArray) (nL : Nat) (ret : Option FieldType) (n : Nat) : Prop := Cond.methodLink own idx y ∈ TB ∧ Cond.static y ∈ TB ∧ Cond.initialized y.cls ∈ TB ∧ Cond.code y b nL ret ∈ TB ∧ yOk y n
/-- a static call's words, of a nest mate -/
def CN (own : String) (idx : Nat) (y : MethodName) (b : ByteArray) (nL : Nat) (ret : Option FieldType) (n : Nat) : Prop := (∃ host, (own, idx, y, host) ∈ nestT) ∧ Cond.static y ∈ TB ∧ Cond.initialized y.cls ∈ TB ∧ Cond.code y b nL ret ∈ TB ∧ yOk y n
/-- a virtual call's words -/
def CV (own : String) (idx ci : Nat) (y : MethodName) (b : ByteArray) (nL : Nat) (ret : Option FieldType) (n : Nat) : Prop := Cond.methodLink own idx y ∈ TB ∧ Cond.instanceMethod y ∈ TB ∧ Cond.selects y.cls y y ∈ TB ∧ Cond.initialized y.cls ∈ TB ∧ Cond.code y b nL ret ∈ TB ∧ yOk y n ∧ ∃ q : vw_C, clsA[ci]? = some q ∧ q.1 = y.cls
theorem goodTB {y : MethodName} {b : ByteArray} {nL : Nat} {ret : Option FieldType} (h : Cond.code y b nL ret ∈ TB) : GoodIn TB (Cond.code y b nL ret :: TB) := by
  intro w hw
  have hw : w ∈ TB := by
    rcases List.mem_cons.mp hw with rfl | hw
    · exact h
    · exact hw
  exact ⟨hw, good_of_word (List.mem_filter.mp hw).2⟩
theorem blindKP {As : List Value} : FrameBlind (va_Pc As (fun U => KP Γ U ∧ HP Γ Λ d U.heap)) := fun a U g mk q => ⟨q.1, q.2.1.calling g mk a, q.2.2⟩
theorem r_call {st0 : List Value} {a : Array Value} {rv : Option Value} {d' : Dt} (hr : va_Run p l e R s m args below meth c H locs cells slots 0 0 (F0 m pc ls st0) rest (QN Γ Λ d' rv a) (AP Γ)) (h : Hs Γ Λ d s H locs)
    (kk : ∀ (H : Heap) (locs : List Loc), Hs Γ Λ d' s H locs → W p l e R s m args below meth c H locs cells slots Q (F0 m (pc + 3) ls (rv.toList ++ rest))) : W p l e R s m args below meth c H locs cells slots Q (F0 m pc ls st0) := by
  intro T hT X
  obtain ⟨v, st₀, t, T', L, h0, X', hL, e1, e2, ⟨⟨hv, hP1⟩, hz, hk⟩, st⟩ := hr T hT X
  cases hv
  rw [h0] at hz hk
  obtain ⟨t2, a1, b1⟩ := kk T'.heap (locs ++ L) ⟨by rw [e1]; exact hP1, Nat.le_trans h.2.1 (by rw [e1]; exact hz), fun q h1 h2 => by rw [e1, hk q (Nat.lt_of_lt_of_le h1 h.2.1) h2]; exact h.2.2.1 q h1 h2, fun q hq => by
      rcases List.mem_append.mp hq with h3 | h3
      · exact h.2.2.2 q h3
      · exact hL q h3⟩ T' rfl X'
  exact ⟨t2, st t2 a1, b1⟩
theorem r_callS {As st0 : List Value} {rv : Option Value} {d' : Dt} {y : MethodName} {b' : ByteArray} {nL' : Nat} {ret' : Option FieldType} {fr lo idx n : Nat} (C0 : Ct Γ p s m args c cc nL own) (h : Hs Γ Λ d s H locs) (hM : Cn Γ l y b' nL' ret' fr lo As Λ d rv d') (cs : CS own idx y b' nL' ret' n)
    (hR : fr + 1 ≤ R.frames ∧ 8 + (nL' + 11) + lo ≤ R.locals) (hn : As.length = n) (hls : ls.size = nL) (hst : st0 = As.reverse ++ rest) (hW : (rest.map fun v => v.category).sum ≤ 8) (hdg : decode cc pc = .ok (.invokestatic idx, 3)) (hcs : cells ≤ R.cells ∧ slots ≤ R.slots)
    (kk : ∀ (H : Heap) (locs : List Loc), Hs Γ Λ d' s H locs → W p l e R s m args below meth c H locs cells slots Q (F0 m (pc + 3) ls (rv.toList ++ rest))) : W p l e R s m args below meth c H locs cells slots Q (F0 m pc ls st0) := by
  obtain ⟨hx, hb, hml, hown, hts, hK⟩ := C0
  obtain ⟨w1, w2, w3, w4, w5⟩ := cs
  exact r_call (va_runS (As := As) (rest := rest) ⟨hx, hb, hml, hown, hts⟩ hM ⟨callB_of n hts (goodTB w4) rfl rfl rfl (hts _ w3) (hts _ w1) w5 hR, hts _ w2⟩ ⟨blindKP, fun U hU hWm => ⟨rfl, hK.go hWm hU h.2, by rw [hU]; exact h.1⟩⟩ rfl hn hls hst (lv_room hW) hdg hcs) h kk
theorem r_callN {As st0 : List Value} {rv : Option Value} {d' : Dt} {y : MethodName} {b' : ByteArray} {nL' : Nat} {ret' : Option FieldType} {fr lo idx n : Nat} (C0 : Ct Γ p s m args c cc nL own) (h : Hs Γ Λ d s H locs) (hM : Cn Γ l y b' nL' ret' fr lo As Λ d rv d') (cs : CN own idx y b' nL' ret' n)
    (hR : fr + 1 ≤ R.frames ∧ 8 + (nL' + 11) + lo ≤ R.locals) (hn : As.length = n) (hls : ls.size = nL) (hst : st0 = As.reverse ++ rest) (hW : (rest.map fun v => v.category).sum ≤ 8) (hdg : decode cc pc = .ok (.invokestatic idx, 3)) (hcs : cells ≤ R.cells ∧ slots ≤ R.slots)
    (kk : ∀ (H : Heap) (locs : List Loc), Hs Γ Λ d' s H locs → W p l e R s m args below meth c H locs cells slots Q (F0 m (pc + 3) ls (rv.toList ++ rest))) : W p l e R s m args below meth c H locs cells slots Q (F0 m pc ls st0) := by
  obtain ⟨hx, hb, hml, hown, hts, hK⟩ := C0
  obtain ⟨⟨host, w1⟩, w2, w3, w4, w5⟩ := cs
  exact r_call (va_runSN (As := As) (rest := rest) ⟨hx, hb, hml, hown, hts⟩ hM ⟨va_cnB n hts (goodTB w4) rfl rfl rfl (hK.2.1 _ w1) (hts _ w3) w5 hR, hts _ w2, trivial⟩ ⟨blindKP, fun U hU hWm => ⟨rfl, hK.go hWm hU h.2, by rw [hU]; exact h.1⟩⟩ rfl hn hls hst (lv_room hW) hdg hcs) h kk
theorem r_callV {As st0 : List Value} {rv : Option Value} {d' : Dt} {y : MethodName} {b' : ByteArray} {nL' : Nat} {ret' : Option FieldType} {fr lo idx n q ci : Nat} (C0 : Ct Γ p s m args c cc nL own) (h : Hs Γ Λ d s H locs) (hM : Cn Γ l y b' nL' ret' fr lo (.ref (Γ.2.2.1 + q) :: As) Λ d rv d') (cs : CV own idx ci y b' nL' ret' n) (ho : clsAt Λ q = some ci)
    (hR : fr + 1 ≤ R.frames ∧ 8 + (nL' + 11) + lo ≤ R.locals) (hn : As.length = n) (hls : ls.size = nL) (hst : st0 = As.reverse ++ .ref (Γ.2.2.1 + q) :: rest) (hW : (rest.map fun v => v.category).sum ≤ 8) (hdg : decode cc pc = .ok (.invokevirtual idx, 3)) (hcs : cells ≤ R.cells ∧ slots ≤ R.slots)
    (kk : ∀ (H : Heap) (locs : List Loc), Hs Γ Λ d' s H locs → W p l e R s m args below meth c H locs cells slots Q (F0 m (pc + 3) ls (rv.toList ++ rest))) : W p l e R s m args below meth c H locs cells slots Q (F0 m pc ls st0) := by
  obtain ⟨hx, hb, hml, hown, hts, hK⟩ := C0
  obtain ⟨w1, w2, w2', w3, w4, w5, q9, hc, hq9⟩ := cs
  obtain ⟨fs, hfs⟩ := clsAt_spec ho
  exact r_call (va_runV (C := y.cls) (As := As) (rest := rest) ⟨hx, hb, hml, hown, hts⟩ hM ⟨callB_of n hts (goodTB w4) rfl rfl rfl (hts _ w3) (hts _ w1) w5 hR, hts _ w2, hts _ w2'⟩ ⟨blindKP, by rw [← hq9]; exact va_recv hK.1 h.1.2 hc (wsL_at hfs), fun U hU hWm => ⟨rfl, hK.go hWm hU h.2, by rw [hU]; exact h.1⟩⟩ rfl hn hls hst (lv_room hW) hdg hcs) h kk
end LITE
end

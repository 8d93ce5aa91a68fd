section
-- ===== PART A: goes FIRST, ahead of the names: the tables' words, and 'selects' of the private methods out of them =====
/-- a private method of a class that the tables say can be made, by its rows of tables_1 -/
def lw_okq (q : MethodName × Nat) : Prop := (q.1.cls ≠ "java/lang/invoke/MethodHandle" ∧ q.1.cls ≠ "java/lang/invoke/VarHandle") ∧ Cond.instantiable q.1.cls q.2 ∈ tables_1 ∧ Cond.privateMethod q.1 ∈ tables_1 ∧ Cond.instanceMethod q.1 ∈ tables_1
theorem lw_p0 : lw_okq (⟨"Marginalia", "healAnchor", "(LMarginalia$Strand;)Z"⟩, 7) := ⟨⟨by decide +kernel, by decide +kernel⟩, List.mem_of_getElem? (i := 17) (by decide +kernel), List.mem_of_getElem? (i := 111) (by decide +kernel), List.mem_of_getElem? (i := 112) (by decide +kernel)⟩
theorem lw_p1 : lw_okq (⟨"Marginalia", "placeOfQuote", "(LMarginalia$Strand;)I"⟩, 7) := ⟨⟨by decide +kernel, by decide +kernel⟩, List.mem_of_getElem? (i := 17) (by decide +kernel), List.mem_of_getElem? (i := 119) (by decide +kernel), List.mem_of_getElem? (i := 120) (by decide +kernel)⟩
theorem lw_p2 : lw_okq (⟨"Marginalia", "countStrands", "(I)I"⟩, 7) := ⟨⟨by decide +kernel, by decide +kernel⟩, List.mem_of_getElem? (i := 17) (by decide +kernel), List.mem_of_getElem? (i := 143) (by decide +kernel), List.mem_of_getElem? (i := 144) (by decide +kernel)⟩
theorem lw_p3 : lw_okq (⟨"Marginalia", "countNotes", "()I"⟩, 7) := ⟨⟨by decide +kernel, by decide +kernel⟩, List.mem_of_getElem? (i := 17) (by decide +kernel), List.mem_of_getElem? (i := 152) (by decide +kernel), List.mem_of_getElem? (i := 153) (by decide +kernel)⟩
theorem lw_p4 : lw_okq (⟨"Marginalia", "digestText", "(J)J"⟩, 7) := ⟨⟨by decide +kernel, by decide +kernel⟩, List.mem_of_getElem? (i := 17) (by decide +kernel), List.mem_of_getElem? (i := 161) (by decide +kernel), List.mem_of_getElem? (i := 162) (by decide +kernel)⟩
theorem lw_p5 : lw_okq (⟨"java/lang/Throwable", "fillInStackTrace", "(I)Ljava/lang/Throwable;"⟩, 6) := ⟨⟨by decide +kernel, by decide +kernel⟩, List.mem_of_getElem? (i := 211) (by decide +kernel), List.mem_of_getElem? (i := 209) (by decide +kernel), List.mem_of_getElem? (i := 210) (by decide +kernel)⟩
theorem lw_p6 : lw_okq (⟨"Marginalia", "digestUser", "(JI)J"⟩, 7) := ⟨⟨by decide +kernel, by decide +kernel⟩, List.mem_of_getElem? (i := 17) (by decide +kernel), List.mem_of_getElem? (i := 246) (by decide +kernel), List.mem_of_getElem? (i := 247) (by decide +kernel)⟩
theorem lw_p7 : lw_okq (⟨"Marginalia", "requireUser", "(I)V"⟩, 7) := ⟨⟨by decide +kernel, by decide +kernel⟩, List.mem_of_getElem? (i := 17) (by decide +kernel), List.mem_of_getElem? (i := 254) (by decide +kernel), List.mem_of_getElem? (i := 255) (by decide +kernel)⟩
theorem lw_p8 : lw_okq (⟨"Marginalia", "isSeen", "(ILMarginalia$Note;)Z"⟩, 7) := ⟨⟨by decide +kernel, by decide +kernel⟩, List.mem_of_getElem? (i := 17) (by decide +kernel), List.mem_of_getElem? (i := 285) (by decide +kernel), List.mem_of_getElem? (i := 286) (by decide +kernel)⟩
theorem lw_p9 : lw_okq (⟨"Marginalia", "digestNote", "(JI)J"⟩, 7) := ⟨⟨by decide +kernel, by decide +kernel⟩, List.mem_of_getElem? (i := 17) (by decide +kernel), List.mem_of_getElem? (i := 293) (by decide +kernel), List.mem_of_getElem? (i := 294) (by decide +kernel)⟩
theorem lw_p10 : lw_okq (⟨"Marginalia", "requireNote", "(I)LMarginalia$Note;"⟩, 7) := ⟨⟨by decide +kernel, by decide +kernel⟩, List.mem_of_getElem? (i := 17) (by decide +kernel), List.mem_of_getElem? (i := 301) (by decide +kernel), List.mem_of_getElem? (i := 302) (by decide +kernel)⟩
theorem lw_p11 : lw_okq (⟨"Marginalia", "digestExport", "(J)J"⟩, 7) := ⟨⟨by decide +kernel, by decide +kernel⟩, List.mem_of_getElem? (i := 17) (by decide +kernel), List.mem_of_getElem? (i := 323) (by decide +kernel), List.mem_of_getElem? (i := 324) (by decide +kernel)⟩
theorem lw_p12 : lw_okq (⟨"Marginalia", "putSigns", "(III)V"⟩, 7) := ⟨⟨by decide +kernel, by decide +kernel⟩, List.mem_of_getElem? (i := 17) (by decide +kernel), List.mem_of_getElem? (i := 378) (by decide +kernel), List.mem_of_getElem? (i := 379) (by decide +kernel)⟩
theorem lw_p13 : lw_okq (⟨"Marginalia", "requireSign", "(I)V"⟩, 7) := ⟨⟨by decide +kernel, by decide +kernel⟩, List.mem_of_getElem? (i := 17) (by decide +kernel), List.mem_of_getElem? (i := 404) (by decide +kernel), List.mem_of_getElem? (i := 405) (by decide +kernel)⟩
theorem lw_p14 : lw_okq (⟨"Marginalia", "cutSigns", "(II)V"⟩, 7) := ⟨⟨by decide +kernel, by decide +kernel⟩, List.mem_of_getElem? (i := 17) (by decide +kernel), List.mem_of_getElem? (i := 409) (by decide +kernel), List.mem_of_getElem? (i := 410) (by decide +kernel)⟩
theorem lw_p15 : lw_okq (⟨"Marginalia", "quoteOf", "(II)[I"⟩, 7) := ⟨⟨by decide +kernel, by decide +kernel⟩, List.mem_of_getElem? (i := 17) (by decide +kernel), List.mem_of_getElem? (i := 481) (by decide +kernel), List.mem_of_getElem? (i := 482) (by decide +kernel)⟩
def lw_privs_1 : List (MethodName × Nat) := [(⟨"Marginalia", "healAnchor", "(LMarginalia$Strand;)Z"⟩, 7), (⟨"Marginalia", "placeOfQuote", "(LMarginalia$Strand;)I"⟩, 7), (⟨"Marginalia", "countStrands", "(I)I"⟩, 7), (⟨"Marginalia", "countNotes", "()I"⟩, 7), (⟨"Marginalia", "digestText", "(J)J"⟩, 7), (⟨"java/lang/Throwable", "fillInStackTrace", "(I)Ljava/lang/Throwable;"⟩, 6), (⟨"Marginalia", "digestUser", "(JI)J"⟩, 7), (⟨"Marginalia", "requireUser", "(I)V"⟩, 7), (⟨"Marginalia", "isSeen", "(ILMarginalia$Note;)Z"⟩, 7), (⟨"Marginalia", "digestNote", "(JI)J"⟩, 7), (⟨"Marginalia", "requireNote", "(I)LMarginalia$Note;"⟩, 7), (⟨"Marginalia", "digestExport", "(J)J"⟩, 7), (⟨"Marginalia", "putSigns", "(III)V"⟩, 7), (⟨"Marginalia", "requireSign", "(I)V"⟩, 7), (⟨"Marginalia", "cutSigns", "(II)V"⟩, 7), (⟨"Marginalia", "quoteOf", "(II)[I"⟩, 7)]
theorem lw_r1 : ∀ q ∈ lw_privs_1, lw_okq q := List.forall_mem_cons.mpr ⟨lw_p0, List.forall_mem_cons.mpr ⟨lw_p1, List.forall_mem_cons.mpr ⟨lw_p2, List.forall_mem_cons.mpr ⟨lw_p3, List.forall_mem_cons.mpr ⟨lw_p4, List.forall_mem_cons.mpr ⟨lw_p5, List.forall_mem_cons.mpr ⟨lw_p6, List.forall_mem_cons.mpr ⟨lw_p7, List.forall_mem_cons.mpr ⟨lw_p8, List.forall_mem_cons.mpr ⟨lw_p9, List.forall_mem_cons.mpr ⟨lw_p10, List.forall_mem_cons.mpr ⟨lw_p11, List.forall_mem_cons.mpr ⟨lw_p12, List.forall_mem_cons.mpr ⟨lw_p13, List.forall_mem_cons.mpr ⟨lw_p14, List.forall_mem_cons.mpr ⟨lw_p15, fun _ h => absurd h List.not_mem_nil⟩⟩⟩⟩⟩⟩⟩⟩⟩⟩⟩⟩⟩⟩⟩⟩
theorem lw_p16 : lw_okq (⟨"Marginalia", "keepNote", "(LMarginalia$Note;)I"⟩, 7) := ⟨⟨by decide +kernel, by decide +kernel⟩, List.mem_of_getElem? (i := 17) (by decide +kernel), List.mem_of_getElem? (i := 574) (by decide +kernel), List.mem_of_getElem? (i := 575) (by decide +kernel)⟩
theorem lw_p17 : lw_okq (⟨"Marginalia", "canTake", "(LMarginalia$Strand;)Z"⟩, 7) := ⟨⟨by decide +kernel, by decide +kernel⟩, List.mem_of_getElem? (i := 17) (by decide +kernel), List.mem_of_getElem? (i := 621) (by decide +kernel), List.mem_of_getElem? (i := 622) (by decide +kernel)⟩
theorem lw_p18 : lw_okq (⟨"Marginalia", "putProposal", "(LMarginalia$Strand;)V"⟩, 7) := ⟨⟨by decide +kernel, by decide +kernel⟩, List.mem_of_getElem? (i := 17) (by decide +kernel), List.mem_of_getElem? (i := 629) (by decide +kernel), List.mem_of_getElem? (i := 630) (by decide +kernel)⟩
theorem lw_p19 : lw_okq (⟨"Marginalia", "headOf", "(LMarginalia$Note;)LMarginalia$Note;"⟩, 7) := ⟨⟨by decide +kernel, by decide +kernel⟩, List.mem_of_getElem? (i := 17) (by decide +kernel), List.mem_of_getElem? (i := 666) (by decide +kernel), List.mem_of_getElem? (i := 667) (by decide +kernel)⟩
theorem lw_p20 : lw_okq (⟨"Marginalia", "chooseHeads", "(IZ)I"⟩, 7) := ⟨⟨by decide +kernel, by decide +kernel⟩, List.mem_of_getElem? (i := 17) (by decide +kernel), List.mem_of_getElem? (i := 681) (by decide +kernel), List.mem_of_getElem? (i := 682) (by decide +kernel)⟩
theorem lw_p21 : lw_okq (⟨"Marginalia", "putAmongChosen", "(LMarginalia$Note;I)V"⟩, 7) := ⟨⟨by decide +kernel, by decide +kernel⟩, List.mem_of_getElem? (i := 17) (by decide +kernel), List.mem_of_getElem? (i := 685) (by decide +kernel), List.mem_of_getElem? (i := 686) (by decide +kernel)⟩
theorem lw_p22 : lw_okq (⟨"MarginaliaModel", "no", "(I)I"⟩, 23) := ⟨⟨by decide +kernel, by decide +kernel⟩, List.mem_of_getElem? (i := 725) (by decide +kernel), List.mem_of_getElem? (i := 815) (by decide +kernel), List.mem_of_getElem? (i := 816) (by decide +kernel)⟩
theorem lw_p23 : lw_okq (⟨"MarginaliaModel", "isUser", "(I)Z"⟩, 23) := ⟨⟨by decide +kernel, by decide +kernel⟩, List.mem_of_getElem? (i := 725) (by decide +kernel), List.mem_of_getElem? (i := 823) (by decide +kernel), List.mem_of_getElem? (i := 824) (by decide +kernel)⟩
theorem lw_p24 : lw_okq (⟨"MarginaliaModel", "text", "()[I"⟩, 23) := ⟨⟨by decide +kernel, by decide +kernel⟩, List.mem_of_getElem? (i := 725) (by decide +kernel), List.mem_of_getElem? (i := 831) (by decide +kernel), List.mem_of_getElem? (i := 832) (by decide +kernel)⟩
theorem lw_p25 : lw_okq (⟨"MarginaliaModel", "put", "(III)V"⟩, 23) := ⟨⟨by decide +kernel, by decide +kernel⟩, List.mem_of_getElem? (i := 725) (by decide +kernel), List.mem_of_getElem? (i := 835) (by decide +kernel), List.mem_of_getElem? (i := 836) (by decide +kernel)⟩
theorem lw_p26 : lw_okq (⟨"MarginaliaModel", "cut", "(II)V"⟩, 23) := ⟨⟨by decide +kernel, by decide +kernel⟩, List.mem_of_getElem? (i := 725) (by decide +kernel), List.mem_of_getElem? (i := 844) (by decide +kernel), List.mem_of_getElem? (i := 845) (by decide +kernel)⟩
theorem lw_p27 : lw_okq (⟨"MarginaliaModel", "ok", "(I)I"⟩, 23) := ⟨⟨by decide +kernel, by decide +kernel⟩, List.mem_of_getElem? (i := 725) (by decide +kernel), List.mem_of_getElem? (i := 854) (by decide +kernel), List.mem_of_getElem? (i := 855) (by decide +kernel)⟩
theorem lw_p28 : lw_okq (⟨"MarginaliaModel", "add", "(III)I"⟩, 23) := ⟨⟨by decide +kernel, by decide +kernel⟩, List.mem_of_getElem? (i := 725) (by decide +kernel), List.mem_of_getElem? (i := 874) (by decide +kernel), List.mem_of_getElem? (i := 875) (by decide +kernel)⟩
theorem lw_p29 : lw_okq (⟨"MarginaliaModel", "isNote", "(I)Z"⟩, 23) := ⟨⟨by decide +kernel, by decide +kernel⟩, List.mem_of_getElem? (i := 725) (by decide +kernel), List.mem_of_getElem? (i := 882) (by decide +kernel), List.mem_of_getElem? (i := 883) (by decide +kernel)⟩
theorem lw_p30 : lw_okq (⟨"MarginaliaModel", "may", "(III)Z"⟩, 23) := ⟨⟨by decide +kernel, by decide +kernel⟩, List.mem_of_getElem? (i := 725) (by decide +kernel), List.mem_of_getElem? (i := 886) (by decide +kernel), List.mem_of_getElem? (i := 887) (by decide +kernel)⟩
theorem lw_p31 : lw_okq (⟨"MarginaliaModel", "seesNow", "(II)Z"⟩, 23) := ⟨⟨by decide +kernel, by decide +kernel⟩, List.mem_of_getElem? (i := 725) (by decide +kernel), List.mem_of_getElem? (i := 890) (by decide +kernel), List.mem_of_getElem? (i := 891) (by decide +kernel)⟩
def lw_privs_2 : List (MethodName × Nat) := [(⟨"Marginalia", "keepNote", "(LMarginalia$Note;)I"⟩, 7), (⟨"Marginalia", "canTake", "(LMarginalia$Strand;)Z"⟩, 7), (⟨"Marginalia", "putProposal", "(LMarginalia$Strand;)V"⟩, 7), (⟨"Marginalia", "headOf", "(LMarginalia$Note;)LMarginalia$Note;"⟩, 7), (⟨"Marginalia", "chooseHeads", "(IZ)I"⟩, 7), (⟨"Marginalia", "putAmongChosen", "(LMarginalia$Note;I)V"⟩, 7), (⟨"MarginaliaModel", "no", "(I)I"⟩, 23), (⟨"MarginaliaModel", "isUser", "(I)Z"⟩, 23), (⟨"MarginaliaModel", "text", "()[I"⟩, 23), (⟨"MarginaliaModel", "put", "(III)V"⟩, 23), (⟨"MarginaliaModel", "cut", "(II)V"⟩, 23), (⟨"MarginaliaModel", "ok", "(I)I"⟩, 23), (⟨"MarginaliaModel", "add", "(III)I"⟩, 23), (⟨"MarginaliaModel", "isNote", "(I)Z"⟩, 23), (⟨"MarginaliaModel", "may", "(III)Z"⟩, 23), (⟨"MarginaliaModel", "seesNow", "(II)Z"⟩, 23)]
theorem lw_r2 : ∀ q ∈ lw_privs_2, lw_okq q := List.forall_mem_cons.mpr ⟨lw_p16, List.forall_mem_cons.mpr ⟨lw_p17, List.forall_mem_cons.mpr ⟨lw_p18, List.forall_mem_cons.mpr ⟨lw_p19, List.forall_mem_cons.mpr ⟨lw_p20, List.forall_mem_cons.mpr ⟨lw_p21, List.forall_mem_cons.mpr ⟨lw_p22, List.forall_mem_cons.mpr ⟨lw_p23, List.forall_mem_cons.mpr ⟨lw_p24, List.forall_mem_cons.mpr ⟨lw_p25, List.forall_mem_cons.mpr ⟨lw_p26, List.forall_mem_cons.mpr ⟨lw_p27, List.forall_mem_cons.mpr ⟨lw_p28, List.forall_mem_cons.mpr ⟨lw_p29, List.forall_mem_cons.mpr ⟨lw_p30, List.forall_mem_cons.mpr ⟨lw_p31, fun _ h => absurd h List.not_mem_nil⟩⟩⟩⟩⟩⟩⟩⟩⟩⟩⟩⟩⟩⟩⟩⟩
theorem lw_p32 : lw_okq (⟨"MarginaliaModel", "seesBy", "(III)Z"⟩, 23) := ⟨⟨by decide +kernel, by decide +kernel⟩, List.mem_of_getElem? (i := 725) (by decide +kernel), List.mem_of_getElem? (i := 894) (by decide +kernel), List.mem_of_getElem? (i := 895) (by decide +kernel)⟩
theorem lw_p33 : lw_okq (⟨"MarginaliaModel", "isNot", "(I)Z"⟩, 23) := ⟨⟨by decide +kernel, by decide +kernel⟩, List.mem_of_getElem? (i := 725) (by decide +kernel), List.mem_of_getElem? (i := 902) (by decide +kernel), List.mem_of_getElem? (i := 903) (by decide +kernel)⟩
theorem lw_p34 : lw_okq (⟨"MarginaliaModel", "replies", "(I)I"⟩, 23) := ⟨⟨by decide +kernel, by decide +kernel⟩, List.mem_of_getElem? (i := 725) (by decide +kernel), List.mem_of_getElem? (i := 910) (by decide +kernel), List.mem_of_getElem? (i := 911) (by decide +kernel)⟩
theorem lw_p35 : lw_okq (⟨"MarginaliaModel", "isHead", "(I)Z"⟩, 23) := ⟨⟨by decide +kernel, by decide +kernel⟩, List.mem_of_getElem? (i := 725) (by decide +kernel), List.mem_of_getElem? (i := 926) (by decide +kernel), List.mem_of_getElem? (i := 927) (by decide +kernel)⟩
theorem lw_p36 : lw_okq (⟨"MarginaliaModel", "isLost", "(I)Z"⟩, 23) := ⟨⟨by decide +kernel, by decide +kernel⟩, List.mem_of_getElem? (i := 725) (by decide +kernel), List.mem_of_getElem? (i := 930) (by decide +kernel), List.mem_of_getElem? (i := 931) (by decide +kernel)⟩
theorem lw_p37 : lw_okq (⟨"MarginaliaModel", "found", "(I)I"⟩, 23) := ⟨⟨by decide +kernel, by decide +kernel⟩, List.mem_of_getElem? (i := 725) (by decide +kernel), List.mem_of_getElem? (i := 934) (by decide +kernel), List.mem_of_getElem? (i := 935) (by decide +kernel)⟩
theorem lw_p38 : lw_okq (⟨"MarginaliaModel", "manyNow", "(I)I"⟩, 23) := ⟨⟨by decide +kernel, by decide +kernel⟩, List.mem_of_getElem? (i := 725) (by decide +kernel), List.mem_of_getElem? (i := 945) (by decide +kernel), List.mem_of_getElem? (i := 946) (by decide +kernel)⟩
theorem lw_p39 : lw_okq (⟨"MarginaliaModel", "ofNow", "(II)I"⟩, 23) := ⟨⟨by decide +kernel, by decide +kernel⟩, List.mem_of_getElem? (i := 725) (by decide +kernel), List.mem_of_getElem? (i := 957) (by decide +kernel), List.mem_of_getElem? (i := 958) (by decide +kernel)⟩
theorem lw_p40 : lw_okq (⟨"MarginaliaModel", "contentOf", "(I)I"⟩, 23) := ⟨⟨by decide +kernel, by decide +kernel⟩, List.mem_of_getElem? (i := 725) (by decide +kernel), List.mem_of_getElem? (i := 961) (by decide +kernel), List.mem_of_getElem? (i := 962) (by decide +kernel)⟩
theorem lw_p41 : lw_okq (⟨"MarginaliaModel", "depth", "(I)I"⟩, 23) := ⟨⟨by decide +kernel, by decide +kernel⟩, List.mem_of_getElem? (i := 725) (by decide +kernel), List.mem_of_getElem? (i := 965) (by decide +kernel), List.mem_of_getElem? (i := 966) (by decide +kernel)⟩
theorem lw_p42 : lw_okq (⟨"MarginaliaModel", "tellOrder", "(I)V"⟩, 23) := ⟨⟨by decide +kernel, by decide +kernel⟩, List.mem_of_getElem? (i := 725) (by decide +kernel), List.mem_of_getElem? (i := 981) (by decide +kernel), List.mem_of_getElem? (i := 982) (by decide +kernel)⟩
theorem lw_p43 : lw_okq (⟨"MarginaliaModel", "behind", "(I)I"⟩, 23) := ⟨⟨by decide +kernel, by decide +kernel⟩, List.mem_of_getElem? (i := 725) (by decide +kernel), List.mem_of_getElem? (i := 985) (by decide +kernel), List.mem_of_getElem? (i := 986) (by decide +kernel)⟩
theorem lw_p44 : lw_okq (⟨"MarginaliaModel", "reply", "(II)I"⟩, 23) := ⟨⟨by decide +kernel, by decide +kernel⟩, List.mem_of_getElem? (i := 725) (by decide +kernel), List.mem_of_getElem? (i := 989) (by decide +kernel), List.mem_of_getElem? (i := 990) (by decide +kernel)⟩
theorem lw_p45 : lw_okq (⟨"MarginaliaModel", "overNow", "(II)I"⟩, 23) := ⟨⟨by decide +kernel, by decide +kernel⟩, List.mem_of_getElem? (i := 725) (by decide +kernel), List.mem_of_getElem? (i := 997) (by decide +kernel), List.mem_of_getElem? (i := 998) (by decide +kernel)⟩
theorem lw_p46 : lw_okq (⟨"MarginaliaModel", "isAhead", "(II)Z"⟩, 23) := ⟨⟨by decide +kernel, by decide +kernel⟩, List.mem_of_getElem? (i := 725) (by decide +kernel), List.mem_of_getElem? (i := 1005) (by decide +kernel), List.mem_of_getElem? (i := 1006) (by decide +kernel)⟩
theorem lw_p47 : lw_okq (⟨"MarginaliaModel", "seen", "(II)I"⟩, 23) := ⟨⟨by decide +kernel, by decide +kernel⟩, List.mem_of_getElem? (i := 725) (by decide +kernel), List.mem_of_getElem? (i := 1029) (by decide +kernel), List.mem_of_getElem? (i := 1030) (by decide +kernel)⟩
def lw_privs_3 : List (MethodName × Nat) := [(⟨"MarginaliaModel", "seesBy", "(III)Z"⟩, 23), (⟨"MarginaliaModel", "isNot", "(I)Z"⟩, 23), (⟨"MarginaliaModel", "replies", "(I)I"⟩, 23), (⟨"MarginaliaModel", "isHead", "(I)Z"⟩, 23), (⟨"MarginaliaModel", "isLost", "(I)Z"⟩, 23), (⟨"MarginaliaModel", "found", "(I)I"⟩, 23), (⟨"MarginaliaModel", "manyNow", "(I)I"⟩, 23), (⟨"MarginaliaModel", "ofNow", "(II)I"⟩, 23), (⟨"MarginaliaModel", "contentOf", "(I)I"⟩, 23), (⟨"MarginaliaModel", "depth", "(I)I"⟩, 23), (⟨"MarginaliaModel", "tellOrder", "(I)V"⟩, 23), (⟨"MarginaliaModel", "behind", "(I)I"⟩, 23), (⟨"MarginaliaModel", "reply", "(II)I"⟩, 23), (⟨"MarginaliaModel", "overNow", "(II)I"⟩, 23), (⟨"MarginaliaModel", "isAhead", "(II)Z"⟩, 23), (⟨"MarginaliaModel", "seen", "(II)I"⟩, 23)]
theorem lw_r3 : ∀ q ∈ lw_privs_3, lw_okq q := List.forall_mem_cons.mpr ⟨lw_p32, List.forall_mem_cons.mpr ⟨lw_p33, List.forall_mem_cons.mpr ⟨lw_p34, List.forall_mem_cons.mpr ⟨lw_p35, List.forall_mem_cons.mpr ⟨lw_p36, List.forall_mem_cons.mpr ⟨lw_p37, List.forall_mem_cons.mpr ⟨lw_p38, List.forall_mem_cons.mpr ⟨lw_p39, List.forall_mem_cons.mpr ⟨lw_p40, List.forall_mem_cons.mpr ⟨lw_p41, List.forall_mem_cons.mpr ⟨lw_p42, List.forall_mem_cons.mpr ⟨lw_p43, List.forall_mem_cons.mpr ⟨lw_p44, List.forall_mem_cons.mpr ⟨lw_p45, List.forall_mem_cons.mpr ⟨lw_p46, List.forall_mem_cons.mpr ⟨lw_p47, fun _ h => absurd h List.not_mem_nil⟩⟩⟩⟩⟩⟩⟩⟩⟩⟩⟩⟩⟩⟩⟩⟩
def lw_privs : List (MethodName × Nat) := lw_privs_1 ++ (lw_privs_2 ++ (lw_privs_3))
def lw_tbl : List Cond := k2_sels lw_privs ++ tables_1
theorem lw_privs_ok : ∀ q ∈ lw_privs, lw_okq q := by
  show ∀ q ∈ lw_privs_1 ++ (lw_privs_2 ++ (lw_privs_3)), lw_okq q
  exact List.forall_mem_append.mpr ⟨lw_r1, List.forall_mem_append.mpr ⟨lw_r2, lw_r3⟩⟩
/-- the streams that the claim lets the run draw from -/
abbrev lw_cs : List Choice := [Jvm.Choice.named "NaN.bits"]
theorem lw_bits : nanBits ∈ lw_cs := by first | decide | exact List.mem_cons_self | simp [lw_cs, nanBits]
-- ===== end of PART A; then your names; then what follows =====
end
section
/-! the word that an array of arrays can be made, as the printed row va_mna names it (claim/NAMES.whole.lean.txt uses it and doesn't define it) -/
def va_AOA (t : FieldType) (U : State) : Prop := (Cond.arrayOver (.array t)).before #[] U = true
theorem va_AOA.of {t : FieldType} {B : Array Value} {U : State} (h : (Cond.arrayOver (.array t)).before B U = true) : va_AOA t U := h
theorem va_AOA.use {t : FieldType} {B : Array Value} {U : State} (h : va_AOA t U) : (Cond.arrayOver (.array t)).before B U = true := h
end
section
/-! ===== BEGIN words of one list among another's, by their places ===== -/
theorem goodIn_r {big : List Cond} (ws : List Cond) (ps : List Nat) (hp : ws = ps.filterMap (fun i => big[i]?)) (h : ws.all goodWord = true) : GoodIn big ws := by
  intro w hw
  have h1 := List.all_eq_true.mp h w hw
  rw [hp] at hw
  obtain ⟨i, -, hi⟩ := List.mem_filterMap.mp hw
  have hm : w ∈ big := by first | exact List.mem_of_getElem? hi | exact List.getElem?_mem hi
  exact ⟨hm, good_of_word h1⟩
theorem goodIn_app {big a b : List Cond} (ha : GoodIn big a) (hb : GoodIn big b) : GoodIn big (a ++ b) := fun w h => (List.mem_append.mp h).elim (ha w) (hb w)
theorem goodIn_ca {big a b : List Cond} {c : Cond} (ha : GoodIn big (c :: a)) (hb : GoodIn big b) : GoodIn big (c :: (a ++ b)) := fun w h => (List.mem_cons.mp h).elim (fun e => ha w (List.mem_cons.mpr (Or.inl e))) (fun h => (List.mem_append.mp h).elim (fun h => ha w (List.mem_cons.mpr (Or.inr h))) (hb w))
theorem goodIn_sub {big ws : List Cond} (hm : ∀ w ∈ ws, w ∈ big) (h : ws.all goodWord = true) : GoodIn big ws := fun w hw => ⟨hm w hw, good_of_word (List.all_eq_true.mp h w hw)⟩
/-! ===== END ===== -/

/-! ===== BEGIN new T[n][m]: the outer array a place, the inner ones among the pooled ===== -/
/-- f, but v at every address of l -/
def vr_up {α : Type} (f : Nat → α) (l : List Nat) (v : α) : Nat → α := fun a => if a ∈ l then v else f a
theorem vr_up_in {α : Type} {f : Nat → α} {l : List Nat} {v : α} {a : Nat} (h : a ∈ l) : vr_up f l v a = v := if_pos h
theorem vr_up_ne {α : Type} {f : Nat → α} {l : List Nat} {v : α} {a : Nat} (h : a ∉ l) : vr_up f l v a = f a := if_neg h
theorem vr_rows {L l : List Nat} {f : Nat → va_E} {e : va_E} (h : ∀ a, a ∈ l → a ∉ L) : va_pl L f ++ l.map (fun a => (a, e)) = va_pl (L ++ l) (vr_up f l e) := by
  unfold va_pl
  rw [List.map_append]
  congr 1
  · apply List.map_congr_left
    intro a ha
    rw [vr_up_ne (fun q => h a q ha)]
  · apply List.map_congr_left
    intro a ha
    rw [vr_up_in ha]
theorem vr_lay {X rows : va_W} {x : Nat × va_E} {pl : va_W} {D : va_G} {cl : List vw_C} {H : Heap} (hP : va_P D cl (((X ++ pl) ++ [x]) ++ rows) H) : va_P D cl ((X ++ [x]) ++ (pl ++ rows)) H := by
  rw [List.append_assoc (X ++ pl)] at hP
  have h := va_P.swap hP
  rw [← List.append_assoc X] at h
  have h2 := va_P.swap h
  rw [List.append_assoc (X ++ [x])] at h2
  exact h2
theorem vr_layD {X rows : va_W} {x : Nat × va_E} {pl : va_W} {A : Nat → Prop} (hD : va_D A (((X ++ pl) ++ [x]) ++ rows)) : va_D A ((X ++ [x]) ++ (pl ++ rows)) := by
  rw [List.append_assoc (X ++ pl)] at hD
  have h := va_D.swap hD
  rw [← List.append_assoc X] at h
  have h2 := va_D.swap h
  rw [List.append_assoc (X ++ [x])] at h2
  exact h2
theorem vr_outer (c : ClassId) (N h0 : Nat) : ∀ i : Nat, Jvm.Free.Multi.outerC c N h0 i = arrV c N (fun j => va_rf (if j < i then some (h0 + 1 + j) else none))
  | 0 => by
    show ({ cls := c, slots := Array.replicate N .null, vm := .none } : Cell) = _
    rw [arrV_new]
    refine congrArg (arrV c N) (funext fun j => ?_)
    simp [va_rf]
  | i + 1 => by
    show (Jvm.Free.Multi.outerC c N h0 i).setSlot i (.ref (h0 + 1 + i)) = _
    rw [vr_outer c N h0 i, arrV_store]
    refine congrArg (arrV c N) (funext fun j => ?_)
    by_cases e : j = i
    · subst e
      simp [updV, va_rf]
    · by_cases h : j < i
      · simp [updV, e, h, Nat.lt_succ_of_lt h]
      · simp [updV, e, h, show ¬ j < i + 1 by omega]
section VGM
variable {p : Program} {l : Launch} {e : Env} {R : Room} {s : State} {m : MethodId} {args : Array Value} {below : List Frame} {meth : Method} {c : Code} {H : Heap} {locs : List Loc} {cells slots : Nat} {Q : State → Prop}
variable {cc : ByteArray} {pc : Nat} {ls : Array Slot} {rest : List Value} {D : va_G} {cl : List vw_C} {A : Nat → Prop} {a : Nat} {tys : List (ClassId × FieldType)} {ws : va_W} {H0 : Heap}
theorem va_mna {X : va_W} {L : List Nat} {f : Nat → va_E} {cc : ByteArray} (hexec : p.tables.exec = Jvm.exec) (hb : c.code = cc) {own : String} {index : Nat} {ty : FieldType} {cy : ClassId} (hown : s.vm.findClass own = some m.cls) (hclink : (Cond.classLink own index ("[" ++ (FieldType.array ty).toString)).before args s = true) (hover : va_AOA ty s) (harr : (Cond.arrayClass ty).before args s = true) (hcy : s.vm.findClass (FieldType.array ty).toString = some cy)
    (hK : va_K D cl tys s) (hP : va_P D cl (X ++ va_pl L f) H) (hD : va_D A (X ++ va_pl L f)) (hS : va_S A H0 H locs) (hA : ∀ q, H0.size ≤ q → A q) {n k : Int32} {N' K' : Nat} {z : vp_A} (hn : ¬ n < 0) (hk : ¬ k < 0) (hN : n.toNatClampNeg = N') (hM : k.toNatClampNeg = K')
    (hb1 : N' * 4 ≤ 536870912) (hb2 : K' * componentBytes ty ≤ 536870912) (hb3 : K' ≤ 536870912) (hdf : fits ty (defaultValue ty) = true) (hdd : (defaultValue ty).isDefault = true) (hcells : cells + (1 + N') ≤ R.cells) (hslots : slots + (N' + N' * K') ≤ R.slots) (hz : ∀ c : ClassId, Jvm.Free.Multi.innerC c K' (defaultValue ty) = vp_cell c z) (hdg : decode cc pc = .ok (.multianewarray index 2, 4))
    (kk : ∀ (q : Nat) (r : Nat → Nat) (cA : ClassId) (H1 : Heap), (∀ i j : Nat, i < N' → j < N' → r i = r j → i = j) → (∀ i : Nat, i < N' → r i ∉ L) → va_K D cl (tys ++ [(cA, .array ty)]) s →
      va_P D cl ((X ++ [(q, .inl (cA, N', .inr (.inr (.inr (.inr (fun i => if i < N' then some (r i) else none))))))]) ++ va_pl (L ++ (List.range N').map r) (vr_up f ((List.range N').map r) (.inl (cy, z)))) H1 → va_D A ((X ++ [(q, .inl (cA, N', .inr (.inr (.inr (.inr (fun i => if i < N' then some (r i) else none))))))]) ++ va_pl (L ++ (List.range N').map r) (vr_up f ((List.range N').map r) (.inl (cy, z)))) → va_S A H0 H1 locs →
      W p l e R s m args below meth c H1 locs (cells + 1 + N') (slots + N' + N' * K') Q (F0 m (pc + 4) ls (.ref q :: rest))) : W p l e R s m args below meth c H locs cells slots Q (F0 m pc ls (.int k :: .int n :: rest)) := by
  subst hN
  subst hM
  intro T hT Xs
  obtain ⟨vm₁, cA, comp, -, fA, fC, hO, -, X', step⟩ := Xs.multianewarray2F hexec hown hclink (va_AOA.use hover) harr (g := F0 m pc ls (.int k :: .int n :: rest)) rfl (by rw [hb]; exact hdg) rfl hn hk hb1 hb2 hb3 hdf hdd hcells hslots
  have ec : some cy = some comp := hcy.symm.trans fC
  cases ec
  generalize hF : Jvm.Free.Multi.fill (T.setVm vm₁) cA cy n.toNatClampNeg k.toNatClampNeg (defaultValue ty) n.toNatClampNeg = F at X' step
  have hTh : (T.setVm vm₁).heap = H := hT
  obtain ⟨f1, f2, -, -⟩ := Jvm.Free.Multi.fill_facts (T.setVm vm₁) cA cy n.toNatClampNeg k.toNatClampNeg (defaultValue ty) n.toNatClampNeg
  rw [hF, hTh] at f1 f2
  have hold : ∀ x : Nat, x < H.size → F.heap[x]? = H[x]? := fun x hx => by
    have := Jvm.Free.Multi.fill_old (T.setVm vm₁) cA cy n.toNatClampNeg k.toNatClampNeg (defaultValue ty) (a := x) (by rw [hTh]; exact hx) n.toNatClampNeg
    rw [hF, hTh] at this
    exact this
  have hrow : ∀ j : Nat, j < n.toNatClampNeg → F.heap[H.size + 1 + j]? = some (vp_cell cy z) := fun j hj => by
    have := Jvm.Free.Multi.fill_inner (T.setVm vm₁) cA cy n.toNatClampNeg k.toNatClampNeg (defaultValue ty) n.toNatClampNeg j hj
    rw [hF, hTh, hz] at this
    exact this
  have hout : Jvm.Free.Multi.outerC cA n.toNatClampNeg H.size n.toNatClampNeg = vp_cell cA (n.toNatClampNeg, .inr (.inr (.inr (.inr (fun i => if i < n.toNatClampNeg then some (H.size + 1 + i) else none))))) := by
    rw [vp_cell_q]
    exact vr_outer cA n.toNatClampNeg H.size n.toNatClampNeg
  rw [hout] at f2
  have hlt : ∀ a, a ∈ L → a < H.size := fun a ha => by
    obtain ⟨k9, hk9⟩ := va_pl_get (X := X) (f := f) ha
    exact (hP k9 _ hk9).lt
  have hnl : ∀ i : Nat, i < n.toNatClampNeg → H.size + 1 + i ∉ L := fun i _ h => by
    have := hlt _ h
    omega
  have hnm : ∀ a, a ∈ (List.range n.toNatClampNeg).map (fun i => H.size + 1 + i) → a ∉ L := fun a ha h => by
    obtain ⟨i, -, rfl⟩ := List.mem_map.mp ha
    have := hlt _ h
    omega
  have hP0 : va_P D cl (X ++ va_pl L f) F.heap := hP.kept (fun k9 x hx => hold x.1 ((hP k9 x hx).lt))
  have hP1 : va_P D cl ((X ++ va_pl L f) ++ [(H.size, .inl (cA, n.toNatClampNeg, .inr (.inr (.inr (.inr (fun i => if i < n.toNatClampNeg then some (H.size + 1 + i) else none))))))]) F.heap := hP0.app (fun k9 x hx => by
    have h0 : k9 < 1 := (List.getElem?_eq_some_iff.mp hx).1
    rw [show k9 = 0 by omega] at hx
    cases hx
    exact f2)
  have hP2 : va_P D cl (((X ++ va_pl L f) ++ [(H.size, .inl (cA, n.toNatClampNeg, .inr (.inr (.inr (.inr (fun i => if i < n.toNatClampNeg then some (H.size + 1 + i) else none))))))]) ++ ((List.range n.toNatClampNeg).map (fun i => H.size + 1 + i)).map (fun a => (a, .inl (cy, z)))) F.heap := hP1.app (fun k9 x hx => by
    obtain ⟨a, ha, rfl⟩ := List.mem_map.mp (List.mem_of_getElem? hx)
    obtain ⟨i, hi, rfl⟩ := List.mem_map.mp ha
    exact hrow i (List.mem_range.mp hi))
  have hD2 : va_D A (((X ++ va_pl L f) ++ [(H.size, .inl (cA, n.toNatClampNeg, .inr (.inr (.inr (.inr (fun i => if i < n.toNatClampNeg then some (H.size + 1 + i) else none))))))]) ++ ((List.range n.toNatClampNeg).map (fun i => H.size + 1 + i)).map (fun a => (a, .inl (cy, z)))) := by
    have hD1 := hD.push (e := .inl (cA, n.toNatClampNeg, .inr (.inr (.inr (.inr (fun i => if i < n.toNatClampNeg then some (H.size + 1 + i) else none)))))) hP rfl (hA _ hS.1)
    generalize hW1 : (X ++ va_pl L f) ++ [(H.size, .inl (cA, n.toNatClampNeg, .inr (.inr (.inr (.inr (fun i => if i < n.toNatClampNeg then some (H.size + 1 + i) else none))))))] = W1 at hD1 hP1 ⊢
    have hle : ∀ (k9 : Nat) (x : Nat × va_E), W1[k9]? = some x → x.1 ≤ H.size := fun k9 x hx => by
      rw [← hW1] at hx
      by_cases hl : k9 < (X ++ va_pl L f).length
      · rw [List.getElem?_append_left hl] at hx
        exact Nat.le_of_lt ((hP k9 x hx).lt)
      · rw [List.getElem?_append_right (by omega)] at hx
        have h0 : k9 - (X ++ va_pl L f).length < 1 := (List.getElem?_eq_some_iff.mp hx).1
        rw [show k9 - (X ++ va_pl L f).length = 0 by omega] at hx
        cases hx
        exact Nat.le_refl _
    have hr : ∀ (k9 : Nat) (x : Nat × va_E), (((List.range n.toNatClampNeg).map (fun i => H.size + 1 + i)).map (fun a => ((a, .inl (cy, z)) : Nat × va_E)))[k9]? = some x → x.1 = H.size + 1 + k9 := fun k9 x hx => by
      rw [List.getElem?_map, List.getElem?_map] at hx
      by_cases h9 : k9 < n.toNatClampNeg
      · rw [List.getElem?_range h9] at hx
        cases hx
        rfl
      · have hn0 : (List.range n.toNatClampNeg)[k9]? = none := List.getElem?_eq_none (by rw [List.length_range]; omega)
        rw [hn0] at hx
        cases hx
    refine ⟨fun i j x y hi hj hxy => ?_, fun k9 x hx => ?_⟩
    · by_cases h1 : i < W1.length <;> by_cases h2 : j < W1.length
      · rw [List.getElem?_append_left h1] at hi
        rw [List.getElem?_append_left h2] at hj
        exact hD1.1 i j x y hi hj hxy
      · rw [List.getElem?_append_left h1] at hi
        rw [List.getElem?_append_right (by omega)] at hj
        have := hle _ _ hi
        have := hr _ _ hj
        omega
      · rw [List.getElem?_append_right (by omega)] at hi
        rw [List.getElem?_append_left h2] at hj
        have := hle _ _ hj
        have := hr _ _ hi
        omega
      · rw [List.getElem?_append_right (by omega)] at hi hj
        have := hr _ _ hi
        have := hr _ _ hj
        omega
    · by_cases h1 : k9 < W1.length
      · rw [List.getElem?_append_left h1] at hx
        exact hD1.2 k9 x hx
      · rw [List.getElem?_append_right (by omega)] at hx
        have := hr _ _ hx
        exact hA _ (by have := hS.1; omega)
  have hAr : ArrOfT s cA (.array ty) := fun N9 z9 => by
    obtain ⟨-, k9, hk9, cm9, hkk9⟩ := (hO 0 0 0).1
    exact ⟨(fun q hq => by cases hq), k9, hk9, cm9, hkk9⟩
  have hK2 : va_K D cl (tys ++ [(cA, .array ty)]) s := ⟨hK.1, fun k9 x hx => by
    by_cases hl : k9 < tys.length
    · rw [List.getElem?_append_left hl] at hx
      exact hK.2 k9 x hx
    · rw [List.getElem?_append_right (by omega)] at hx
      have h0 : k9 - tys.length < 1 := (List.getElem?_eq_some_iff.mp hx).1
      rw [show k9 - tys.length = 0 by omega] at hx
      cases hx
      exact ⟨hAr, fA⟩⟩
  obtain ⟨t, a1, b1⟩ := kk H.size (fun i => H.size + 1 + i) cA F.heap (fun i j _ _ h => by have h9 : H.size + 1 + i = H.size + 1 + j := h; omega) hnl hK2 (by rw [← vr_rows hnm]; exact vr_lay hP2) (by rw [← vr_rows hnm]; exact vr_layD hD2) ⟨by rw [f1]; have := hS.1; omega, fun x h1 h2 => (hold x (Nat.lt_of_lt_of_le h1 hS.1)).trans (hS.2.1 x h1 h2), hS.2.2⟩ F rfl X'
  refine ⟨t, step t ?_, b1⟩
  have e : T.heap.size = H.size := by rw [hT]
  rw [e]
  exact a1
end VGM
/-! ===== END ===== -/

/-! ===== BEGIN exceptions that leave a method, and their catching by the caller (launches without stack traces) ===== -/
section VXA
/-! The laws vx_back, vx_callV, vx_callS, vx_callSW, vx_throw0, vx_throwS follow proofs of the library, with one case more: JvmDerived/Free/Laws.lean (Back.of_free), Shelf42/LK1.lean (callV, callS), Shelf/KitTraced.lean (throwNew0V, throwNewS). -/
/-- where a method has thrown q: the class by its name, the cell, what was written, the world -/
def vx_T (XC : String → State → State → Prop) (st : State) (q : Addr) (t : State) (mc ms : Nat) (free : Addr → Prop) : Prop :=
  ∃ (E : String) (ce : Cell) (L : List Loc), XC E st t ∧ t.heap[q]? = some ce ∧ ce.vm = .none ∧ st.vm.findClass E = some ce.cls ∧ st.WarmedH t.vm ∧ st.sameButNew ({ t with vm := st.vm } : State) L mc ms ∧ ∀ z ∈ L, free z.base
def vx_Q (Qc : Array Value → State → Outcome → State → Prop) (XC : String → State → State → Prop) (mc ms : Nat) (free : Addr → Prop) : Array Value → State → Outcome → State → Prop := fun a st o t =>
  (Qc a st o t ∧ ∃ L, FrameEnd st o t L mc ms ∧ ∀ q ∈ L, free q.base) ∨ ∃ q, o = .threw q ∧ vx_T XC st q t mc ms free
/-- a callee that returns or throws -/
def vx_Met (l : Launch) (y : MethodName) (ws : List Cond) (rm : Room) (Pc : Array Value → State → Prop) (Qc : Array Value → State → Outcome → State → Prop) (XC : String → State → State → Prop) (mc ms : Nat) (free : Addr → Prop) : Prop :=
  MetFree l y (headSpec ws rm) Pc (fun _ _ _ _ _ => True) (vx_Q Qc XC mc ms free)
def vx_Post (XC : String → State → State → Prop) (mc ms : Nat) (free : Addr → Prop) : Pt → Array Value → Addr → Pt → Prop := fun A a q B =>
  ∃ (g : JFrame) (mk : MethodId) (t : State) (L : List Loc) (E : String) (ce : Cell), B.U.heap = t.heap ∧ B.U.vm = t.vm ∧ XC E (A.U.calling g mk a) t ∧ t.heap[q]? = some ce ∧ ce.vm = .none ∧ A.U.vm.findClass E = some ce.cls ∧ B.locs = A.locs ++ L ∧ (∀ z ∈ L, free z.base) ∧ B.cells = A.cells + mc ∧ B.slots = A.slots + ms
def vx_Back (l : Launch) (R : Room) (p : Program) (e : Env) (below : List Frame) (s : State) (sargs : Array Value) (y : MethodName) (len W9 : Nat)
    (Pre : Pt → Array Value → Prop) (Post : Pt → Array Value → Option Value → Pt → Prop) (PostX : Pt → Array Value → Addr → Pt → Prop) : Prop :=
  ∀ (m : MethodId) (meth : Method) (c : Code) (A : Pt) (g : JFrame) (ig : Instr) (mk : MethodId) (a : Array Value),
    Stand p l e R s m sargs below meth c A.U A.locs A.cells A.slots → g.method = m → g.locals.size = c.maxLocals → decode c.code g.pc = .ok (ig, len) →
    2 * g.monitorRoom + (g.stack.map fun v => v.category).sum ≤ W9 → A.U.methodNamed? y = some mk → Pre A a →
    (∃ (v : Option Value) (B : Pt), Stand p l e R s m sargs below meth c B.U B.locs B.cells B.slots ∧ Post A a v B ∧
      Steps p.tables e below (doInvoke e (A.U.setTop g) [] mk a).1 (B.U.setTop { g with pc := g.pc + len, stack := v.toList ++ g.stack })) ∨
    (∃ (q : Addr) (B : Pt), Stand p l e R s m sargs below meth c B.U B.locs B.cells B.slots ∧ PostX A a q B ∧
      Steps p.tables e below (doInvoke e (A.U.setTop g) [] mk a).1 ((B.U.setTop g).pushFrame (.throwing q)))
section Payer
variable {l : Launch} {R : Room} {p : Program} {e : Env} {below : List Frame} {s : State} {sargs : Array Value} {y : MethodName} {len W9 : Nat}
theorem vx_back {ws : List Cond} {rm : Room} {Pc : Array Value → State → Prop} {Qc : Array Value → State → Outcome → State → Prop} {XC : String → State → State → Prop} {mc ms : Nat} {free : Addr → Prop} {bytes : ByteArray} {maxL : Nat} {ret : Option FieldType}
    (hM : vx_Met l y ws rm Pc Qc XC mc ms free) (hblind : FrameBlind Pc) (hrc : rm.cells = mc) (hrs : rm.slots = ms)
    (hframes : rm.frames + 1 ≤ R.frames) (hlocals : W9 + (maxL + 11) + rm.locals ≤ R.locals)
    (hws : ∀ w ∈ ws, ∀ a' U, s.WarmedH U.vm → w.before a' U = true) (hcode : Cond.code y bytes maxL ret ∈ ws) (hinit : ∀ a' U, s.WarmedH U.vm → (Cond.initialized y.cls).before a' U = true) :
    vx_Back l R p e below s sargs y len W9 (PreOf R mc ms Pc) (PostOf Qc mc ms free) (vx_Post XC mc ms free) := by
  intro m meth c A g ig mk a X hg hsize hdg hW hn hp
  have h1 : (headSpec ws rm).pre.before a A.U = true := atoms_intro fun w hw => hws w hw _ _ X.warmed
  have h2 : (Cond.code y bytes maxL ret).before a A.U = true := hws _ hcode _ _ X.warmed
  have h3 : (Cond.initialized y.cls).before a A.U = true := hinit _ _ X.warmed
  have h4 : A.cells + (headSpec ws rm).room.cells ≤ R.cells := by rw [show (headSpec ws rm).room.cells = mc from hrc]; exact hp.1
  have h5 : A.slots + (headSpec ws rm).room.slots ≤ R.slots := by rw [show (headSpec ws rm).room.slots = ms from hrs]; exact hp.2.1
  have hPc : Pc a (A.U.calling g mk a) := hblind _ _ _ _ hp.2.2
  obtain ⟨U, Ls, c0, s0⟩ := A
  dsimp only [Pt.U, Pt.locs, Pt.cells, Pt.slots] at h1 h2 h3 h4 h5 X hn hPc ⊢
  obtain ⟨methY, cY, hmY, hcY, -, hlY, -, -, -, -⟩ := Cond.code_spec hn h2
  obtain ⟨kY, hkY, -⟩ := className_of_methodNamed hn
  have hinitY : kY.init = .initialized := Cond.initialized_spec (findClass_of_methodNamed hn) hkY h3
  have h : At U g.method c below := by rw [hg]; exact X.here
  have hlocals9 : W9 + (maxL + 11) + (headSpec ws rm).room.locals ≤ R.locals := hlocals
  have happ : (headSpec ws rm).appliesLoose y e.platform (U.calling g mk a) = true :=
    Spec.appliesLoose_calling (g := g) h hdg hn hkY hinitY
      (X.room_calling (g := g) (R' := (headSpec ws rm).room) hsize hmY hcY hframes (by rw [hlY]; omega) h4 h5) h1
  obtain ⟨mid, hmid⟩ := h.above
  have hfr : (U.setTop g).frames = (.java g :: mid) ++ below := by rw [State.frames_setTop' g h.top, hmid]; rfl
  obtain ⟨o, s₂, hsteps, -, hend, hq⟩ := Steps.callFree hM p X.admits X.cas X.clock (acts := []) hfr happ hPc trivial
  have hq' : vx_Q Qc XC mc ms free a (U.calling g mk a) o s₂ := hq
  rw [State.frames_setTop' g h.top] at hend
  obtain ⟨g₀, hg0⟩ := Option.isSome_iff_exists.mp h.top
  obtain ⟨r, hr⟩ := State.topJava?_eq_some.mp hg0
  have hr' : (({ U with heap := s₂.heap, slotsUsed := s₂.slotsUsed } : State).setVm s₂.vm).frames = .java g₀ :: r := hr
  rcases hq' with ⟨hqc, L, hfe, hL⟩ | ⟨q, rfl, E, ce, L, hx, hce, hcv, hcl, hW₂, hsm, hL⟩
  · obtain ⟨⟨v, rfl⟩, hW₂, e2, q2, q3, q4, q5, q6⟩ := id hfe
    have e3 : s₂ = ({ (U.calling g mk a).setFrames s₂.frames with heap := s₂.heap, slotsUsed := s₂.slotsUsed } : State).setVm s₂.vm := by
      have : s₂ = ({ s₂ with vm := (U.calling g mk a).vm } : State).setVm s₂.vm := rfl
      rw [e2] at this
      exact this
    obtain ⟨c₂, i₂, len₂, hc₂, hd₂, hf₂⟩ := hend
    have hW' : U.WarmedH s₂.vm := hW₂
    have hcc : c₂ = c := by
      have h1 : s₂.code? g.method = U.code? g.method := by
        rw [State.code?_eq, State.code?_eq, hW'.alike.method?]
      exact Option.some.inj (hc₂.symm.trans (h1.trans h.code))
    subst hcc
    have hlen : len₂ = len := by rw [hdg] at hd₂; cases hd₂; rfl
    subst hlen
    have hs₂ : s₂ = (({ U with heap := s₂.heap, slotsUsed := s₂.slotsUsed } : State).setVm s₂.vm).setTop { g with pc := g.pc + len₂, stack := v.toList ++ g.stack } := by
      refine e3.trans ?_
      rw [hf₂, State.calling_eq h.top, State.setFrames_setFrames, State.setTop_of_frames _ hr', hr]
      rfl
    have hsame : U.sameButNew ({ U with heap := s₂.heap, slotsUsed := s₂.slotsUsed } : State) L mc ms := by
      refine ⟨?_, q2, q3, q4, q5, q6⟩
      obtain ⟨t, ht, -⟩ := State.frames_cons hr
      show ({ U with heap := s₂.heap, slotsUsed := s₂.slotsUsed } : State) = { U.setFrames U.frames with heap := s₂.heap, slotsUsed := s₂.slotsUsed }
      rw [State.setFrames_self ht]
    subst hg
    refine Or.inl ⟨v, ⟨(({ U with heap := s₂.heap, slotsUsed := s₂.slotsUsed } : State).setVm s₂.vm), Ls ++ L, c0 + mc, s0 + ms⟩,
      ⟨X.admits, X.cas, X.clock, X.frames, X.room, X.hears, X.method, X.code, (X.here.setHeapUsed s₂.heap s₂.slotsUsed).setVm hW'.alike, X.tail, State.WarmedH.trans X.warmed hW', X.limits, X.bytes, X.same.trans (hsame.setVm s.vm)⟩,
      ⟨g, mk, s₂, L, rfl, rfl, hqc, rfl, hL, rfl, rfl⟩, ?_⟩
    show Steps p.tables e below _ ((({ U with heap := s₂.heap, slotsUsed := s₂.slotsUsed } : State).setVm s₂.vm).setTop { g with pc := g.pc + len₂, stack := v.toList ++ g.stack })
    rw [← hs₂]
    exact hsteps
  · obtain ⟨e2, q2, q3, q4, q5, q6⟩ := id hsm
    have e3 : s₂ = ({ (U.calling g mk a).setFrames s₂.frames with heap := s₂.heap, slotsUsed := s₂.slotsUsed } : State).setVm s₂.vm := by
      have : s₂ = ({ s₂ with vm := (U.calling g mk a).vm } : State).setVm s₂.vm := rfl
      rw [e2] at this
      exact this
    have hf₂ : s₂.frames = .throwing q :: .java g :: U.frames.tail := hend
    have hW' : U.WarmedH s₂.vm := hW₂
    have hs₂ : s₂ = ((({ U with heap := s₂.heap, slotsUsed := s₂.slotsUsed } : State).setVm s₂.vm).setTop g).pushFrame (.throwing q) := by
      refine e3.trans ?_
      rw [hf₂, State.calling_eq h.top, State.setFrames_setFrames, State.pushFrame, State.frames_setTop _ hr', State.setTop_of_frames _ hr', State.setFrames_setFrames, hr]
      rfl
    have hsame : U.sameButNew ({ U with heap := s₂.heap, slotsUsed := s₂.slotsUsed } : State) L mc ms := by
      refine ⟨?_, q2, q3, q4, q5, q6⟩
      obtain ⟨t, ht, -⟩ := State.frames_cons hr
      show ({ U with heap := s₂.heap, slotsUsed := s₂.slotsUsed } : State) = { U.setFrames U.frames with heap := s₂.heap, slotsUsed := s₂.slotsUsed }
      rw [State.setFrames_self ht]
    subst hg
    refine Or.inr ⟨q, ⟨(({ U with heap := s₂.heap, slotsUsed := s₂.slotsUsed } : State).setVm s₂.vm), Ls ++ L, c0 + mc, s0 + ms⟩,
      ⟨X.admits, X.cas, X.clock, X.frames, X.room, X.hears, X.method, X.code, (X.here.setHeapUsed s₂.heap s₂.slotsUsed).setVm hW'.alike, X.tail, State.WarmedH.trans X.warmed hW', X.limits, X.bytes, X.same.trans (hsame.setVm s.vm)⟩,
      ⟨g, mk, s₂, L, E, ce, rfl, rfl, hx, hce, hcv, hcl, rfl, hL, rfl, rfl⟩, ?_⟩
    show Steps p.tables e below _ (((({ U with heap := s₂.heap, slotsUsed := s₂.slotsUsed } : State).setVm s₂.vm).setTop g).pushFrame (.throwing q))
    rw [← hs₂]
    exact hsteps
end Payer
section Calls
variable {p : Program} {l : Launch} {e : Env} {R : Room} {s : State} {m : MethodId} {args : Array Value} {below : List Frame} {meth : Method} {c : Code} {T : State} {locs : List Loc} {cells slots : Nat}
theorem vx_callV (X : Stand p l e R s m args below meth c T locs cells slots) (hexec : p.tables.exec = Jvm.exec) {own C : String} {index : Nat} {y : MethodName} {bytes : ByteArray} {maxL : Nat} {ret : Option FieldType}
    (hown : s.vm.findClass own = some m.cls) (hlink : (Cond.methodLink own index y).before args s = true) (hinst : (Cond.instanceMethod y).before args s = true) (hsel : (Cond.selects C y y).before args s = true)
    (hcode : (Cond.code y bytes maxL ret).before args s = true) (hy : y.cls ≠ "java/lang/invoke/MethodHandle" ∧ y.cls ≠ "java/lang/invoke/VarHandle")
    {W9 : Nat} {Pre : Pt → Array Value → Prop} {Post : Pt → Array Value → Option Value → Pt → Prop} {PostX : Pt → Array Value → Addr → Pt → Prop} (hK : vx_Back l R p e below s args y 3 W9 Pre Post PostX)
    {b : Addr} {cellB : Cell} (hcell : T.heap[b]? = some cellB) (hobj : cellB.vm.isStatics = false) (hcls : s.vm.findClass C = some cellB.cls)
    {g : JFrame} (hg : g.method = m) (hsize : g.locals.size = c.maxLocals) {argsL rest : List Value} (hlen : ∀ sig, parseMethodDescriptor y.desc = some sig → argsL.length = sig.parameters.length)
    (hstack : g.stack = argsL.reverse ++ .ref b :: rest) (hW : 2 * g.monitorRoom + (rest.map fun v => v.category).sum ≤ W9) (hdg : decode c.code g.pc = .ok (.invokevirtual index, 3))
    (hpre : ∀ vm₁, s.WarmedH vm₁ → Pre ⟨T.setVm vm₁, locs, cells, slots⟩ (Value.ref b :: argsL).toArray) :
    (∃ (v : Option Value) (vm₁ : Vm) (B : Pt), s.WarmedH vm₁ ∧ Stand p l e R s m args below meth c B.U B.locs B.cells B.slots ∧ Post ⟨T.setVm vm₁, locs, cells, slots⟩ (Value.ref b :: argsL).toArray v B ∧
      ∀ target, Steps p.tables e below (B.U.setTop { g with pc := g.pc + 3, stack := v.toList ++ rest }) target → Steps p.tables e below (T.setTop g) target) ∨
    (∃ (q : Addr) (vm₁ : Vm) (B : Pt), s.WarmedH vm₁ ∧ Stand p l e R s m args below meth c B.U B.locs B.cells B.slots ∧ PostX ⟨T.setVm vm₁, locs, cells, slots⟩ (Value.ref b :: argsL).toArray q B ∧
      Steps p.tables e below (T.setTop g) ((B.U.setTop { g with stack := rest }).pushFrame (.throwing q))) := by
  obtain ⟨mk, methM, hnamed, hmethM, hstM, habM⟩ := Cond.instanceMethod_spec hinst
  obtain ⟨methM', cM, hmethM', -, -, -, -, -, -, hsigM⟩ := Cond.code_spec hnamed hcode
  cases hmethM.symm.trans hmethM'
  obtain ⟨c2, r2, m2, q1, q2, q3, q4, kP, hkP, hkPi⟩ := Cond.selects_spec hsel
  cases hcls.symm.trans q1
  cases (State.methodFound?_of_named hnamed hy).symm.trans q2
  cases hnamed.symm.trans q3
  have hselP : selectMethod e.platform s.vm cellB.cls mk = .method mk := by rw [Launch.admits_selectMethod X.admits]; exact q4
  obtain ⟨vm₁, X₁, hstep₁⟩ := X.invokevirtual hexec hown hlink hnamed hmethM hstM hkP hkPi hy (a := b) (cell := cellB) hcell
    (fun z h => by rw [h] at hobj; cases hobj) hselP hmethM habM hkP hkPi (g := g) hg (argsL := argsL) (rest := rest) (hlen _ hsigM) hstack hdg
  rcases hK m meth c ⟨T.setVm vm₁, locs, cells, slots⟩ { g with stack := rest } (.invokevirtual index) mk (Value.ref b :: argsL).toArray X₁ hg hsize hdg hW (X₁.named hnamed) (hpre vm₁ X₁.warmed) with ⟨v, B, X', hpost, hsteps⟩ | ⟨q, B, X', hpost, hsteps⟩
  · exact Or.inl ⟨v, vm₁, B, X₁.warmed, X', hpost, fun target h => hstep₁ _ fun acts => by rw [doInvoke_state]; exact hsteps.trans h⟩
  · exact Or.inr ⟨q, vm₁, B, X₁.warmed, X', hpost, hstep₁ _ fun acts => by rw [doInvoke_state]; exact hsteps⟩
theorem vx_callS (X : Stand p l e R s m args below meth c T locs cells slots) (hexec : p.tables.exec = Jvm.exec) {own : String} {index : Nat} {y : MethodName} {bytes : ByteArray} {maxL : Nat} {ret : Option FieldType}
    (hown : s.vm.findClass own = some m.cls) (hlink : (Cond.methodLink own index y).before args s = true) (hstat : (Cond.static y).before args s = true) (hinit : (Cond.initialized y.cls).before args s = true)
    (hcode : (Cond.code y bytes maxL ret).before args s = true) (hy : y.cls ≠ "java/lang/invoke/MethodHandle" ∧ y.cls ≠ "java/lang/invoke/VarHandle")
    {W9 : Nat} {Pre : Pt → Array Value → Prop} {Post : Pt → Array Value → Option Value → Pt → Prop} {PostX : Pt → Array Value → Addr → Pt → Prop} (hK : vx_Back l R p e below s args y 3 W9 Pre Post PostX)
    {g : JFrame} (hg : g.method = m) (hsize : g.locals.size = c.maxLocals) {argsL rest : List Value} (hlen : ∀ sig, parseMethodDescriptor y.desc = some sig → argsL.length = sig.parameters.length)
    (hstack : g.stack = argsL.reverse ++ rest) (hW : 2 * g.monitorRoom + (rest.map fun v => v.category).sum ≤ W9) (hdg : decode c.code g.pc = .ok (.invokestatic index, 3))
    (hpre : ∀ vm₁, s.WarmedH vm₁ → Pre ⟨T.setVm vm₁, locs, cells, slots⟩ argsL.toArray) :
    (∃ (v : Option Value) (vm₁ : Vm) (B : Pt), s.WarmedH vm₁ ∧ Stand p l e R s m args below meth c B.U B.locs B.cells B.slots ∧ Post ⟨T.setVm vm₁, locs, cells, slots⟩ argsL.toArray v B ∧
      ∀ target, Steps p.tables e below (B.U.setTop { g with pc := g.pc + 3, stack := v.toList ++ rest }) target → Steps p.tables e below (T.setTop g) target) ∨
    (∃ (q : Addr) (vm₁ : Vm) (B : Pt), s.WarmedH vm₁ ∧ Stand p l e R s m args below meth c B.U B.locs B.cells B.slots ∧ PostX ⟨T.setVm vm₁, locs, cells, slots⟩ argsL.toArray q B ∧
      Steps p.tables e below (T.setTop g) ((B.U.setTop { g with stack := rest }).pushFrame (.throwing q))) := by
  obtain ⟨mk, hnamed⟩ := Cond.code_named hcode
  obtain ⟨methM, cM, hmethM, -, -, -, -, -, -, hsigM⟩ := Cond.code_spec hnamed hcode
  have hstatic : methM.isStatic = true := Cond.static_spec hnamed hmethM hstat
  obtain ⟨kP, hkP, -⟩ := className_of_methodNamed hnamed
  have hinitP : kP.init = .initialized := Cond.initialized_spec (findClass_of_methodNamed hnamed) hkP hinit
  obtain ⟨vm₁, X₁, hstep₁⟩ := X.invokestatic hexec hown hlink hnamed hmethM hstatic hkP hinitP hy (g := g) hg (argsL := argsL) (rest := rest) (hlen _ hsigM) hstack hdg
  rcases hK m meth c ⟨T.setVm vm₁, locs, cells, slots⟩ { g with stack := rest } (.invokestatic index) mk argsL.toArray X₁ hg hsize hdg hW (X₁.named hnamed) (hpre vm₁ X₁.warmed) with ⟨v, B, X', hpost, hsteps⟩ | ⟨q, B, X', hpost, hsteps⟩
  · exact Or.inl ⟨v, vm₁, B, X₁.warmed, X', hpost, fun target h => hstep₁ _ fun acts => by rw [doInvoke_state]; exact hsteps.trans h⟩
  · exact Or.inr ⟨q, vm₁, B, X₁.warmed, X', hpost, hstep₁ _ fun acts => by rw [doInvoke_state]; exact hsteps⟩
end Calls
theorem vx_cls {s : State} {T : State} {vm₁ : Vm} {E : String} {k : ClassId} (hW : s.WarmedH vm₁) (h : (T.setVm vm₁).vm.findClass E = some k) : s.vm.findClass E = some k := by
  have h1 : vm₁.findClass E = some k := h
  rw [hW.alike.findClass] at h1
  exact h1
/-- the method's frame g, with q thrown over it -/
def vx_W (p : Program) (l : Launch) (e : Env) (R : Room) (s : State) (m : MethodId) (args : Array Value) (below : List Frame) (meth : Method) (c : Code) (H : Heap) (locs : List Loc) (cells slots : Nat) (Q : State → Prop) (g : JFrame) (q : Addr) : Prop :=
  ∀ T : State, T.heap = H → Stand p l e R s m args below meth c T locs cells slots → ∃ t, Steps p.tables e below ((T.setTop g).pushFrame (.throwing q)) t ∧ Q t
def vx_Run (p : Program) (l : Launch) (e : Env) (R : Room) (s : State) (m : MethodId) (args : Array Value) (below : List Frame) (meth : Method) (c : Code) (H : Heap) (locs : List Loc) (cells slots mc ms : Nat) (g : JFrame) (rest : List Value) (Qa : State → Outcome → State → Prop) (XC : String → State → State → Prop) (free : Addr → Prop) : Prop :=
  ∀ T : State, T.heap = H → Stand p l e R s m args below meth c T locs cells slots →
    (∃ (v : Option Value) (st₀ t T' : State) (L : List Loc), st₀.heap = H ∧ Stand p l e R s m args below meth c T' (locs ++ L) (cells + mc) (slots + ms) ∧ (∀ q ∈ L, free q.base) ∧ T'.heap = t.heap ∧ T'.vm = t.vm ∧ Qa st₀ (.returned v) t ∧
      Goes p e below T g T' { g with pc := g.pc + 3, stack := v.toList ++ rest }) ∨
    (∃ (q : Addr) (st₀ t T' : State) (L : List Loc) (E : String) (ce : Cell), st₀.heap = H ∧ Stand p l e R s m args below meth c T' (locs ++ L) (cells + mc) (slots + ms) ∧ (∀ z ∈ L, free z.base) ∧ T'.heap = t.heap ∧ T'.vm = t.vm ∧ XC E st₀ t ∧ t.heap[q]? = some ce ∧ ce.vm = .none ∧ s.vm.findClass E = some ce.cls ∧
      Steps p.tables e below (T.setTop g) ((T'.setTop { g with stack := rest }).pushFrame (.throwing q)))
def vx_X {S : Type} (px : S → Prop) (B : String → S → State → Prop) (A : Nat → Prop) : String → State → State → Prop := fun E st t => ∃ u : S, px u ∧ B E u t ∧ va_F A st t
section Runs
variable {p : Program} {l : Launch} {e : Env} {R : Room} {s : State} {m : MethodId} {args : Array Value} {below : List Frame} {meth : Method} {c : Code} {H : Heap} {locs : List Loc} {cells slots : Nat}
variable {y : MethodName} {bytes cc : ByteArray} {maxL nL mc ms n index : Nat} {ret : Option FieldType} {ws : List Cond} {rm : Room} {Pc : Array Value → State → Prop} {Qc : Array Value → State → Outcome → State → Prop} {XC : String → State → State → Prop} {free : Addr → Prop} {Ts : List Cond} {own C : String} {b : Addr} {As rest : List Value} {g : JFrame}
theorem vx_callBack (cb : CallB R s args own index y bytes maxL ret ws rm mc ms n) (hM : vx_Met l y ws rm Pc Qc XC mc ms free) (hbl : FrameBlind Pc) : vx_Back l R p e below s args y 3 8 (PreOf R mc ms Pc) (PostOf Qc mc ms free) (vx_Post XC mc ms free) := by
  obtain ⟨hrc, hrs, hfr, hlo, hws, hcw, -, hini, -⟩ := cb
  exact vx_back (bytes := bytes) (maxL := maxL) (ret := ret) hM hbl hrc hrs hfr hlo hws hcw (fun a' U hW => word_at hW (Or.inl (by first | rfl | simp [Cond.onTables, Cond.keeps, Cond.steady])) hini)
theorem vx_runV (S : CallFix p m c cc nL s args Ts own) (hM : vx_Met l y ws rm Pc Qc XC mc ms free) (cw : CallW R s args own C index y bytes maxL ret ws rm mc ms n) (hp : PreV s H C b Pc As)
    (hg : g.method = m) (hn : As.length = n) (hsize : g.locals.size = nL) (hstack : g.stack = As.reverse ++ .ref b :: rest) (hW : 2 * g.monitorRoom + (rest.map fun v => v.category).sum ≤ 8) (hdg : decode cc g.pc = .ok (.invokevirtual index, 3)) (hf : cells + mc ≤ R.cells ∧ slots + ms ≤ R.slots) :
    vx_Run p l e R s m args below meth c H locs cells slots mc ms g rest (Qc (Value.ref b :: As).toArray) XC free := by
  have hK : vx_Back l R p e below s args y 3 8 (PreOf R mc ms Pc) (PostOf Qc mc ms free) (vx_Post XC mc ms free) := vx_callBack cw.1 hM hp.1
  obtain ⟨⟨-, -, -, -, -, -, hcode, -, hy, hlen, hl⟩, hin, hse⟩ := cw
  obtain ⟨hx, hb, hml, ho, -⟩ := S
  obtain ⟨-, ⟨cellB, hcB, hoB, hclB⟩, hPc⟩ := hp
  intro T hT X
  rcases vx_callV X hx (C := C) (bytes := bytes) (maxL := maxL) (ret := ret) ho hl hin hse hcode hy hK (by rw [hT]; exact hcB) hoB hclB hg (hsize.trans hml.symm) (argsL := As) (rest := rest) (fun sig h => hn.trans (hlen sig h)) hstack hW (by rw [hb]; exact hdg)
    (fun vm₁ hW₁ => ⟨hf.1, hf.2, hPc (T.setVm vm₁) hT hW₁⟩) with ⟨v, vm₁, ⟨U', l2, c2, s2⟩, hW₁, X', ⟨g', mk, t, L, e1, e2, hq, h1, hL, h2, h3⟩, st⟩ | ⟨q, vm₁, ⟨U', l2, c2, s2⟩, hW₁, X', ⟨g', mk, t, L, E, ce, e1, e2, hq, hce, hcv, hcl, h1, hL, h2, h3⟩, st⟩
  · dsimp only [Pt.U, Pt.locs, Pt.cells, Pt.slots] at X' e1 e2 h1 h2 h3 st
    subst h1; subst h2; subst h3
    exact Or.inl ⟨v, (T.setVm vm₁).calling g' mk (Value.ref b :: As).toArray, t, U', L, hT, X', hL, e1, e2, hq, st⟩
  · dsimp only [Pt.U, Pt.locs, Pt.cells, Pt.slots] at X' e1 e2 h1 h2 h3 st hcl
    subst h1; subst h2; subst h3
    exact Or.inr ⟨q, (T.setVm vm₁).calling g' mk (Value.ref b :: As).toArray, t, U', L, E, ce, hT, X', hL, e1, e2, hq, hce, hcv, vx_cls hW₁ hcl, st⟩
theorem vx_runS (S : CallFix p m c cc nL s args Ts own) (hM : vx_Met l y ws rm Pc Qc XC mc ms free) (cw : CallB R s args own index y bytes maxL ret ws rm mc ms n ∧ (Cond.static y).before args s = true) (hp : PreS s H Pc As)
    (hg : g.method = m) (hn : As.length = n) (hsize : g.locals.size = nL) (hstack : g.stack = As.reverse ++ rest) (hW : 2 * g.monitorRoom + (rest.map fun v => v.category).sum ≤ 8) (hdg : decode cc g.pc = .ok (.invokestatic index, 3)) (hf : cells + mc ≤ R.cells ∧ slots + ms ≤ R.slots) :
    vx_Run p l e R s m args below meth c H locs cells slots mc ms g rest (Qc As.toArray) XC free := by
  have hK : vx_Back l R p e below s args y 3 8 (PreOf R mc ms Pc) (PostOf Qc mc ms free) (vx_Post XC mc ms free) := vx_callBack cw.1 hM hp.1
  obtain ⟨⟨-, -, -, -, -, -, hcode, hini, hy, hlen, hl⟩, hstt⟩ := cw
  obtain ⟨hx, hb, hml, ho, -⟩ := S
  intro T hT X
  rcases vx_callS X hx (bytes := bytes) (maxL := maxL) (ret := ret) ho hl hstt hini hcode hy hK hg (hsize.trans hml.symm) (argsL := As) (rest := rest) (fun sig h => hn.trans (hlen sig h)) hstack hW (by rw [hb]; exact hdg)
    (fun vm₁ hW₁ => ⟨hf.1, hf.2, hp.2 (T.setVm vm₁) hT hW₁⟩) with ⟨v, vm₁, ⟨U', l2, c2, s2⟩, hW₁, X', ⟨g', mk, t, L, e1, e2, hq, h1, hL, h2, h3⟩, st⟩ | ⟨q, vm₁, ⟨U', l2, c2, s2⟩, hW₁, X', ⟨g', mk, t, L, E, ce, e1, e2, hq, hce, hcv, hcl, h1, hL, h2, h3⟩, st⟩
  · dsimp only [Pt.U, Pt.locs, Pt.cells, Pt.slots] at X' e1 e2 h1 h2 h3 st
    subst h1; subst h2; subst h3
    exact Or.inl ⟨v, (T.setVm vm₁).calling g' mk As.toArray, t, U', L, hT, X', hL, e1, e2, hq, st⟩
  · dsimp only [Pt.U, Pt.locs, Pt.cells, Pt.slots] at X' e1 e2 h1 h2 h3 st hcl
    subst h1; subst h2; subst h3
    exact Or.inr ⟨q, (T.setVm vm₁).calling g' mk As.toArray, t, U', L, E, ce, hT, X', hL, e1, e2, hq, hce, hcv, vx_cls hW₁ hcl, st⟩
end Runs
section Rows
variable {p : Program} {l : Launch} {e : Env} {R : Room} {s : State} {m : MethodId} {args : Array Value} {below : List Frame} {meth : Method} {c : Code} {H : Heap} {locs : List Loc} {cells slots : Nat} {Q : State → Prop}
variable {mc ms : Nat} {free : Addr → Prop} {A0 A1 : Nat → Prop} {H0 : Heap} {a : Array Value} {pc : Nat} {ls : Array Slot} {st0 rest : List Value}
theorem vx_keep {st₀ t T' : State} {L : List Loc} (h0 : st₀.heap = H) (e1 : T'.heap = t.heap) (hS : va_S A0 H0 H locs) (hA : ∀ q, q < H.size → A1 q → A0 q) (hf : ∀ q, free q → A0 q) (hL : ∀ q ∈ L, free q.base) (hF : va_F A1 st₀ t) :
    H.size ≤ T'.heap.size ∧ (∀ q : Nat, q < H.size → ¬ A1 q → T'.heap[q]? = H[q]?) ∧ va_S A0 H0 T'.heap (locs ++ L) := by
  obtain ⟨hz, hk⟩ := hF
  rw [h0] at hz hk
  exact ⟨by rw [e1]; exact hz, fun q h1 h2 => by rw [e1]; exact hk q h1 h2,
    ⟨Nat.le_trans hS.1 (by rw [e1]; exact hz), fun q h1 h2 => by rw [e1, hk q (Nat.lt_of_lt_of_le h1 hS.1) (fun z => h2 (hA q (Nat.lt_of_lt_of_le h1 hS.1) z))]; exact hS.2.1 q h1 h2, fun q hq => by
      rcases List.mem_append.mp hq with h | h
      · exact hS.2.2 q h
      · exact hf _ (hL q h)⟩⟩
theorem vx_calli {S SX : Type} {post : Int32 → S → Prop} {px : SX → Prop} {B : S → State → Prop} {BX : String → SX → State → Prop} {AX : Nat → Prop} (hr : vx_Run p l e R s m args below meth c H locs cells slots mc ms (F0 m pc ls st0) rest (va_Qi post B A1 a) (vx_X px BX AX) free) (hS : va_S A0 H0 H locs) (hA : ∀ q, q < H.size → A1 q → A0 q) (hf : ∀ q, free q → A0 q) (hAX : ∀ q, q < H.size → AX q → A0 q)
    (kx : ∀ (E : String) (ce : Cell) (q9 : Addr) (u : SX) (t : State) (H1 : Heap) (locs1 : List Loc), t.heap = H1 → s.vm.Alike t.vm → px u → BX E u t → H.size ≤ H1.size → (∀ q : Nat, q < H.size → ¬ AX q → H1[q]? = H[q]?) → va_S A0 H0 H1 locs1 → H1[q9]? = some ce → ce.vm = .none → s.vm.findClass E = some ce.cls → vx_W p l e R s m args below meth c H1 locs1 (cells + mc) (slots + ms) Q (F0 m pc ls rest) q9)
    (kk : ∀ (r : Int32) (u : S) (t : State) (H1 : Heap) (locs1 : List Loc), t.heap = H1 → s.vm.Alike t.vm → post r u → B u t → H.size ≤ H1.size → (∀ q : Nat, q < H.size → ¬ A1 q → H1[q]? = H[q]?) → va_S A0 H0 H1 locs1 → W p l e R s m args below meth c H1 locs1 (cells + mc) (slots + ms) Q (F0 m (pc + 3) ls (.int r :: rest))) : W p l e R s m args below meth c H locs cells slots Q (F0 m pc ls st0) := by
  intro T hT X
  rcases hr T hT X with ⟨v, st₀, t, T', L, h0, X', hL, e1, e2, ⟨⟨r, u, hv, hp, hb⟩, hF⟩, st⟩ | ⟨q, st₀, t, T', L, E, ce, h0, X', hL, e1, e2, ⟨u, hp, hb, hF⟩, hce, hcv, hcl, st⟩
  · cases hv
    obtain ⟨k1, k2, k3⟩ := vx_keep h0 e1 hS hA hf hL hF
    obtain ⟨t2, a1, b1⟩ := kk r u t T'.heap (locs ++ L) e1.symm (by rw [← e2]; exact X'.warmed.alike) hp hb k1 k2 k3 T' rfl X'
    exact ⟨t2, st t2 a1, b1⟩
  · obtain ⟨k1, k2, k3⟩ := vx_keep h0 e1 hS hAX hf hL hF
    obtain ⟨t2, a1, b1⟩ := kx E ce q u t T'.heap (locs ++ L) e1.symm (by rw [← e2]; exact X'.warmed.alike) hp hb k1 k2 k3 (by rw [e1]; exact hce) hcv hcl T' rfl X'
    exact ⟨t2, st.trans a1, b1⟩
theorem vx_calll {S SX : Type} {post : Int64 → S → Prop} {px : SX → Prop} {B : S → State → Prop} {BX : String → SX → State → Prop} {AX : Nat → Prop} (hr : vx_Run p l e R s m args below meth c H locs cells slots mc ms (F0 m pc ls st0) rest (va_Ql post B A1 a) (vx_X px BX AX) free) (hS : va_S A0 H0 H locs) (hA : ∀ q, q < H.size → A1 q → A0 q) (hf : ∀ q, free q → A0 q) (hAX : ∀ q, q < H.size → AX q → A0 q)
    (kx : ∀ (E : String) (ce : Cell) (q9 : Addr) (u : SX) (t : State) (H1 : Heap) (locs1 : List Loc), t.heap = H1 → s.vm.Alike t.vm → px u → BX E u t → H.size ≤ H1.size → (∀ q : Nat, q < H.size → ¬ AX q → H1[q]? = H[q]?) → va_S A0 H0 H1 locs1 → H1[q9]? = some ce → ce.vm = .none → s.vm.findClass E = some ce.cls → vx_W p l e R s m args below meth c H1 locs1 (cells + mc) (slots + ms) Q (F0 m pc ls rest) q9)
    (kk : ∀ (r : Int64) (u : S) (t : State) (H1 : Heap) (locs1 : List Loc), t.heap = H1 → s.vm.Alike t.vm → post r u → B u t → H.size ≤ H1.size → (∀ q : Nat, q < H.size → ¬ A1 q → H1[q]? = H[q]?) → va_S A0 H0 H1 locs1 → W p l e R s m args below meth c H1 locs1 (cells + mc) (slots + ms) Q (F0 m (pc + 3) ls (.long r :: rest))) : W p l e R s m args below meth c H locs cells slots Q (F0 m pc ls st0) := by
  intro T hT X
  rcases hr T hT X with ⟨v, st₀, t, T', L, h0, X', hL, e1, e2, ⟨⟨r, u, hv, hp, hb⟩, hF⟩, st⟩ | ⟨q, st₀, t, T', L, E, ce, h0, X', hL, e1, e2, ⟨u, hp, hb, hF⟩, hce, hcv, hcl, st⟩
  · cases hv
    obtain ⟨k1, k2, k3⟩ := vx_keep h0 e1 hS hA hf hL hF
    obtain ⟨t2, a1, b1⟩ := kk r u t T'.heap (locs ++ L) e1.symm (by rw [← e2]; exact X'.warmed.alike) hp hb k1 k2 k3 T' rfl X'
    exact ⟨t2, st t2 a1, b1⟩
  · obtain ⟨k1, k2, k3⟩ := vx_keep h0 e1 hS hAX hf hL hF
    obtain ⟨t2, a1, b1⟩ := kx E ce q u t T'.heap (locs ++ L) e1.symm (by rw [← e2]; exact X'.warmed.alike) hp hb k1 k2 k3 (by rw [e1]; exact hce) hcv hcl T' rfl X'
    exact ⟨t2, st.trans a1, b1⟩
theorem vx_callf {S SX : Type} {post : UInt32 → S → Prop} {px : SX → Prop} {B : S → State → Prop} {BX : String → SX → State → Prop} {AX : Nat → Prop} (hr : vx_Run p l e R s m args below meth c H locs cells slots mc ms (F0 m pc ls st0) rest (va_Qf post B A1 a) (vx_X px BX AX) free) (hS : va_S A0 H0 H locs) (hA : ∀ q, q < H.size → A1 q → A0 q) (hf : ∀ q, free q → A0 q) (hAX : ∀ q, q < H.size → AX q → A0 q)
    (kx : ∀ (E : String) (ce : Cell) (q9 : Addr) (u : SX) (t : State) (H1 : Heap) (locs1 : List Loc), t.heap = H1 → s.vm.Alike t.vm → px u → BX E u t → H.size ≤ H1.size → (∀ q : Nat, q < H.size → ¬ AX q → H1[q]? = H[q]?) → va_S A0 H0 H1 locs1 → H1[q9]? = some ce → ce.vm = .none → s.vm.findClass E = some ce.cls → vx_W p l e R s m args below meth c H1 locs1 (cells + mc) (slots + ms) Q (F0 m pc ls rest) q9)
    (kk : ∀ (r : UInt32) (u : S) (t : State) (H1 : Heap) (locs1 : List Loc), t.heap = H1 → s.vm.Alike t.vm → post r u → B u t → H.size ≤ H1.size → (∀ q : Nat, q < H.size → ¬ A1 q → H1[q]? = H[q]?) → va_S A0 H0 H1 locs1 → W p l e R s m args below meth c H1 locs1 (cells + mc) (slots + ms) Q (F0 m (pc + 3) ls (.float r :: rest))) : W p l e R s m args below meth c H locs cells slots Q (F0 m pc ls st0) := by
  intro T hT X
  rcases hr T hT X with ⟨v, st₀, t, T', L, h0, X', hL, e1, e2, ⟨⟨r, u, hv, hp, hb⟩, hF⟩, st⟩ | ⟨q, st₀, t, T', L, E, ce, h0, X', hL, e1, e2, ⟨u, hp, hb, hF⟩, hce, hcv, hcl, st⟩
  · cases hv
    obtain ⟨k1, k2, k3⟩ := vx_keep h0 e1 hS hA hf hL hF
    obtain ⟨t2, a1, b1⟩ := kk r u t T'.heap (locs ++ L) e1.symm (by rw [← e2]; exact X'.warmed.alike) hp hb k1 k2 k3 T' rfl X'
    exact ⟨t2, st t2 a1, b1⟩
  · obtain ⟨k1, k2, k3⟩ := vx_keep h0 e1 hS hAX hf hL hF
    obtain ⟨t2, a1, b1⟩ := kx E ce q u t T'.heap (locs ++ L) e1.symm (by rw [← e2]; exact X'.warmed.alike) hp hb k1 k2 k3 (by rw [e1]; exact hce) hcv hcl T' rfl X'
    exact ⟨t2, st.trans a1, b1⟩
theorem vx_calld {S SX : Type} {post : UInt64 → S → Prop} {px : SX → Prop} {B : S → State → Prop} {BX : String → SX → State → Prop} {AX : Nat → Prop} (hr : vx_Run p l e R s m args below meth c H locs cells slots mc ms (F0 m pc ls st0) rest (va_Qd post B A1 a) (vx_X px BX AX) free) (hS : va_S A0 H0 H locs) (hA : ∀ q, q < H.size → A1 q → A0 q) (hf : ∀ q, free q → A0 q) (hAX : ∀ q, q < H.size → AX q → A0 q)
    (kx : ∀ (E : String) (ce : Cell) (q9 : Addr) (u : SX) (t : State) (H1 : Heap) (locs1 : List Loc), t.heap = H1 → s.vm.Alike t.vm → px u → BX E u t → H.size ≤ H1.size → (∀ q : Nat, q < H.size → ¬ AX q → H1[q]? = H[q]?) → va_S A0 H0 H1 locs1 → H1[q9]? = some ce → ce.vm = .none → s.vm.findClass E = some ce.cls → vx_W p l e R s m args below meth c H1 locs1 (cells + mc) (slots + ms) Q (F0 m pc ls rest) q9)
    (kk : ∀ (r : UInt64) (u : S) (t : State) (H1 : Heap) (locs1 : List Loc), t.heap = H1 → s.vm.Alike t.vm → post r u → B u t → H.size ≤ H1.size → (∀ q : Nat, q < H.size → ¬ A1 q → H1[q]? = H[q]?) → va_S A0 H0 H1 locs1 → W p l e R s m args below meth c H1 locs1 (cells + mc) (slots + ms) Q (F0 m (pc + 3) ls (.double r :: rest))) : W p l e R s m args below meth c H locs cells slots Q (F0 m pc ls st0) := by
  intro T hT X
  rcases hr T hT X with ⟨v, st₀, t, T', L, h0, X', hL, e1, e2, ⟨⟨r, u, hv, hp, hb⟩, hF⟩, st⟩ | ⟨q, st₀, t, T', L, E, ce, h0, X', hL, e1, e2, ⟨u, hp, hb, hF⟩, hce, hcv, hcl, st⟩
  · cases hv
    obtain ⟨k1, k2, k3⟩ := vx_keep h0 e1 hS hA hf hL hF
    obtain ⟨t2, a1, b1⟩ := kk r u t T'.heap (locs ++ L) e1.symm (by rw [← e2]; exact X'.warmed.alike) hp hb k1 k2 k3 T' rfl X'
    exact ⟨t2, st t2 a1, b1⟩
  · obtain ⟨k1, k2, k3⟩ := vx_keep h0 e1 hS hAX hf hL hF
    obtain ⟨t2, a1, b1⟩ := kx E ce q u t T'.heap (locs ++ L) e1.symm (by rw [← e2]; exact X'.warmed.alike) hp hb k1 k2 k3 (by rw [e1]; exact hce) hcv hcl T' rfl X'
    exact ⟨t2, st.trans a1, b1⟩
theorem vx_callv {S SX : Type} {post : S → Prop} {px : SX → Prop} {B : S → State → Prop} {BX : String → SX → State → Prop} {AX : Nat → Prop} (hr : vx_Run p l e R s m args below meth c H locs cells slots mc ms (F0 m pc ls st0) rest (va_Qv post B A1 a) (vx_X px BX AX) free) (hS : va_S A0 H0 H locs) (hA : ∀ q, q < H.size → A1 q → A0 q) (hf : ∀ q, free q → A0 q) (hAX : ∀ q, q < H.size → AX q → A0 q)
    (kx : ∀ (E : String) (ce : Cell) (q9 : Addr) (u : SX) (t : State) (H1 : Heap) (locs1 : List Loc), t.heap = H1 → s.vm.Alike t.vm → px u → BX E u t → H.size ≤ H1.size → (∀ q : Nat, q < H.size → ¬ AX q → H1[q]? = H[q]?) → va_S A0 H0 H1 locs1 → H1[q9]? = some ce → ce.vm = .none → s.vm.findClass E = some ce.cls → vx_W p l e R s m args below meth c H1 locs1 (cells + mc) (slots + ms) Q (F0 m pc ls rest) q9)
    (kk : ∀ (u : S) (t : State) (H1 : Heap) (locs1 : List Loc), t.heap = H1 → s.vm.Alike t.vm → post u → B u t → H.size ≤ H1.size → (∀ q : Nat, q < H.size → ¬ A1 q → H1[q]? = H[q]?) → va_S A0 H0 H1 locs1 → W p l e R s m args below meth c H1 locs1 (cells + mc) (slots + ms) Q (F0 m (pc + 3) ls (rest))) : W p l e R s m args below meth c H locs cells slots Q (F0 m pc ls st0) := by
  intro T hT X
  rcases hr T hT X with ⟨v, st₀, t, T', L, h0, X', hL, e1, e2, ⟨⟨u, hv, hp, hb⟩, hF⟩, st⟩ | ⟨q, st₀, t, T', L, E, ce, h0, X', hL, e1, e2, ⟨u, hp, hb, hF⟩, hce, hcv, hcl, st⟩
  · cases hv
    obtain ⟨k1, k2, k3⟩ := vx_keep h0 e1 hS hA hf hL hF
    obtain ⟨t2, a1, b1⟩ := kk u t T'.heap (locs ++ L) e1.symm (by rw [← e2]; exact X'.warmed.alike) hp hb k1 k2 k3 T' rfl X'
    exact ⟨t2, st t2 a1, b1⟩
  · obtain ⟨k1, k2, k3⟩ := vx_keep h0 e1 hS hAX hf hL hF
    obtain ⟨t2, a1, b1⟩ := kx E ce q u t T'.heap (locs ++ L) e1.symm (by rw [← e2]; exact X'.warmed.alike) hp hb k1 k2 k3 (by rw [e1]; exact hce) hcv hcl T' rfl X'
    exact ⟨t2, st.trans a1, b1⟩
/-- caught by the row x of this method's table; the rows ahead don't take it -/
theorem vx_catch {own name : String} {E : String} {ce : Cell} {q : Addr} (hown : s.vm.findClass own = some m.cls) (pre : List ExceptionTableEntry) (x : ExceptionTableEntry) (suf : List ExceptionTableEntry) (hsplit : c.exceptionTable.toList = pre ++ x :: suf)
    (hpass : ∀ z ∈ pre, covers z pc = false ∨ (z.catchType ≠ 0 ∧ ∃ nm : String, (Cond.classLink own z.catchType nm).before args s = true ∧ va_Nc E nm s)) (hx : covers x pc = true) (h0 : x.catchType ≠ 0)
    (hlink : (Cond.classLink own x.catchType name).before args s = true) (hcast : (Cond.castable E name).before args s = true) (hcell : H[q]? = some ce) (hv : ce.vm = .none) (hcl : s.vm.findClass E = some ce.cls)
    (kk : W p l e R s m args below meth c H locs cells slots Q (F0 m x.handlerPc ls [.ref q])) : vx_W p l e R s m args below meth c H locs cells slots Q (F0 m pc ls rest) q := by
  intro T hT X
  have hpl : e.platform.magicAccessors = ({} : Platform).magicAccessors := by rw [X.admits.platform]
  obtain ⟨c3, c4, hc3, hc4, hasg⟩ := Cond.castable_spec hcast
  cases Option.some.inj (hc3.symm.trans hcl)
  obtain ⟨c5, hc5, hcl5⟩ := Cond.classLink_spec hown hlink e.platform hpl
  cases Option.some.inj (hc4.symm.trans hc5)
  obtain ⟨vm', X', st⟩ := X.thenCaughtThrough q (g := F0 m pc ls rest) rfl (Steps.refl _) (by rw [hT]; exact hcell) (by rw [hv]; rfl) (by obtain ⟨k9, h9, -⟩ := Vm.findClass_spec hcl; exact ⟨k9, h9⟩) pre x suf hsplit
    (fun z hz => by
      rcases hpass z hz with h | ⟨hz0, nm, hl1, hn1⟩
      · exact Or.inl h
      · obtain ⟨c6, hc6, hcl6⟩ := Cond.classLink_spec hown hl1 e.platform hpl
        obtain ⟨a8, b8, h1, h2, h3⟩ := hn1
        cases Option.some.inj (h1.symm.trans hcl)
        cases Option.some.inj (h2.symm.trans hc6)
        exact Or.inr ⟨hz0, _, hcl6, h3⟩) hx (Or.inr ⟨h0, c4, hcl5, hasg⟩)
  obtain ⟨t, a1, b1⟩ := kk (T.setVm vm') hT X'
  exact ⟨t, st.trans a1, b1⟩
end Rows
section Ends
variable {p : Program} {l : Launch} {e : Env} {R : Room} {s : State} {m : MethodId} {args : Array Value} {below : List Frame} {meth : Method} {c : Code} {H : Heap} {locs : List Loc} {cells slots : Nat} {Q : State → Prop}
variable {mc ms : Nat} {free : Addr → Prop} {A0 A1 : Nat → Prop} {H0 : Heap} {a : Array Value} {ls : Array Slot} {st0 rest : List Value}
variable {Qc : Array Value → State → Outcome → State → Prop} {XC : String → State → State → Prop}
/-- what a body that may throw owes at its end -/
def vx_MQ (below : List Frame) (Qc : Array Value → State → Outcome → State → Prop) (XC : String → State → State → Prop) (a : Array Value) (s : State) (mc ms : Nat) (free : Addr → Prop) : State → Prop := fun t =>
  ∃ o, t.status = .running ∧ Ended t below o ∧ vx_Q Qc XC mc ms free a s o t
theorem vx_ret {g : JFrame} {mc ms : Nat} (k : W p l e R s m args below meth c H locs cells slots (MQ below Qc args s mc ms free) g) : W p l e R s m args below meth c H locs cells slots (vx_MQ below Qc XC args s mc ms free) g := by
  intro T hT X
  obtain ⟨t, a1, o, b1, b2, b3, b4⟩ := k T hT X
  exact ⟨t, a1, o, b1, b2, Or.inl ⟨b3, b4⟩⟩
/-- not caught here: it goes on to the caller -/
theorem vx_widen {g : JFrame} {q : Addr} {k n : Nat} (h1 : cells ≤ k) (h2 : slots ≤ n) (kk : vx_W p l e R s m args below meth c H locs k n Q g q) : vx_W p l e R s m args below meth c H locs cells slots Q g q := fun T hT X => kk T hT (stand_widen X h1 h2)
theorem vx_out {pc : Nat} {E : String} {ce : Cell} {q : Addr} {mc ms : Nat} (hout : ∀ x ∈ c.exceptionTable.toList, covers x pc = false) (hlocks : meth.locks = false) (hcell : H[q]? = some ce) (hv : ce.vm = .none) (hcl : s.vm.findClass E = some ce.cls)
    (hx : ∀ t : State, t.heap = H → s.vm.Alike t.vm → XC E s t) (hf : ∀ z ∈ locs, free z.base) (hc : cells ≤ mc) (hs : slots ≤ ms) :
    vx_W p l e R s m args below meth c H locs cells slots (vx_MQ below Qc XC args s mc ms free) (F0 m pc ls rest) q := by
  intro T hT X
  obtain ⟨st1, hrun, hend, hW, hsm⟩ := X.leaveThrown q (g := F0 m pc ls rest) rfl rfl rfl hout hlocks
  have hcell9 : (T.setFrames (.throwing q :: below)).heap[q]? = some ce := by
    show T.heap[q]? = some ce
    rw [hT]; exact hcell
  exact ⟨_, st1, .threw q, hrun, hend, Or.inr ⟨q, rfl, E, ce, locs, hx _ hT hW.alike, hcell9, hv, hcl, hW, hsm.mono hc hs, hf⟩⟩
theorem vx_frame {U : State} {k n : Nat} (h : s.sameButNew ({ U with vm := s.vm } : State) locs k n) : s.heap.size ≤ U.heap.size ∧ ∀ q : Nat, q < s.heap.size → (∀ z ∈ locs, z.base ≠ q) → U.heap[q]? = s.heap[q]? := by
  obtain ⟨-, h2, -, -, -, h6⟩ := h
  refine ⟨h2, fun q hq hz => ?_⟩
  obtain ⟨c9, e1, e2, e3, e4⟩ := h6 q _ (Array.getElem?_eq_getElem hq)
  have hs : c9.slots = (s.heap[q]).slots := Array.ext_getElem? fun i => e4 i fun hm => hz _ hm rfl
  have h9 : c9 = s.heap[q] := by
    rw [hs] at e2
    exact e2
  have e5 : U.heap[q]? = some c9 := e1
  rw [e5, h9, Array.getElem?_eq_getElem hq]
/-- the words of a throw but the four that speak of the heap -/
def vx_no (w : Cond) : Bool := decide (w ≠ .isRef (.static Bundle.tN "UNASSIGNED_STACK" Bundle.steD)) && decide (w ≠ .isRef (.static Bundle.tN "SUPPRESSED_SENTINEL" Bundle.listD)) && decide (w ≠ .laysStatic Bundle.tN "UNASSIGNED_STACK" Bundle.steD) && decide (w ≠ .laysStatic Bundle.tN "SUPPRESSED_SENTINEL" Bundle.listD)
def vx_at0 (own : String) (ic : Nat) (X : String) (names : List String) : List Cond := (Bundle.ownAtoms0 own ic X names).filter vx_no
def vx_atS (own : String) (ic : Nat) (X : String) (names : List String) : List Cond := (Bundle.ownAtoms own ic X names).filter vx_no
/-- a word that the tables alone decide, or a good one -/
def vx_ot (w : Cond) : Bool := w.onTables || goodWord w
theorem vx_ot_at {args a' : Array Value} {s U : State} {w : Cond} (hW : s.WarmedH U.vm) (hvm : s.vm = U.vm) (hg : vx_ot w = true) (h : w.before args s = true) : w.before a' U = true := by
  simp only [vx_ot, Bool.or_eq_true] at hg
  rcases hg with hg | hg
  · exact va_tabs hg hvm h
  · exact word_at hW (good_of_word hg) h
/-- a list's words: the good ones out of the method's own list, the others by premises of their own -/
theorem vx_hat {args : Array Value} {s : State} {L B : List Cond} (h1 : ∀ w ∈ L.filter goodWord, w.before args s = true) (h2 : ∀ w ∈ L.filter (fun w => !goodWord w), w ∈ B) (h3 : ∀ w ∈ B, w.before args s = true) : ∀ w ∈ L, w.before args s = true := by
  intro w hw
  by_cases g : goodWord w = true
  · exact h1 w (List.mem_filter.mpr ⟨hw, g⟩)
  · refine h3 w (h2 w (List.mem_filter.mpr ⟨hw, ?_⟩))
    show (!goodWord w) = true
    cases hgw : goodWord w
    · rfl
    · exact absurd hgw g
theorem vx_c {args : Array Value} {s : State} {w : Cond} {B : List Cond} (h : w.before args s = true) (t : ∀ w ∈ B, w.before args s = true) : ∀ w' ∈ w :: B, w'.before args s = true := fun w' h' => (List.mem_cons.mp h').elim (fun e => by rw [e]; exact h) (t w')
theorem vx_n {args : Array Value} {s : State} : ∀ w ∈ ([] : List Cond), w.before args s = true := fun _ h => nomatch h
theorem vx_own {args : Array Value} {s : State} {L : List Cond} (h1 : ∀ w ∈ L.filter vx_no, w.before args s = true)
    (hU : (Cond.isRef (.static Bundle.tN "UNASSIGNED_STACK" Bundle.steD)).before args s = true) (hN : (Cond.isRef (.static Bundle.tN "SUPPRESSED_SENTINEL" Bundle.listD)).before args s = true)
    (lU : (Cond.laysStatic Bundle.tN "UNASSIGNED_STACK" Bundle.steD).before args s = true) (lN : (Cond.laysStatic Bundle.tN "SUPPRESSED_SENTINEL" Bundle.listD).before args s = true) : ∀ w ∈ L, w.before args s = true := by
  intro w hw
  by_cases e1 : w = .isRef (.static Bundle.tN "UNASSIGNED_STACK" Bundle.steD)
  · rw [e1]; exact hU
  · by_cases e2 : w = .isRef (.static Bundle.tN "SUPPRESSED_SENTINEL" Bundle.listD)
    · rw [e2]; exact hN
    · by_cases e3 : w = .laysStatic Bundle.tN "UNASSIGNED_STACK" Bundle.steD
      · rw [e3]; exact lU
      · by_cases e4 : w = .laysStatic Bundle.tN "SUPPRESSED_SENTINEL" Bundle.listD
        · rw [e4]; exact lN
        · exact h1 w (List.mem_filter.mpr ⟨hw, by unfold vx_no; rw [decide_eq_true e1, decide_eq_true e2, decide_eq_true e3, decide_eq_true e4]; rfl⟩)
/-- where a static field lies, its class's statics cell in H -/
def vx_L (C n d : String) (A : Nat → Prop) (U : State) (H : Heap) : Prop := ∃ (c : ClassId) (k : Class) (i : Nat) (f : Field) (a : Nat) (cell : Cell), U.vm.findClass C = some c ∧ U.fieldFound? C n d = some (c, k, i, f) ∧ f.isStatic = true ∧ k.statics = some a ∧ H[a]? = some cell ∧ cell.vm.isStatics = true ∧ cell.cls = c ∧ f.slot < cell.slots.size ∧ k.staticTypes[f.slot]? = some f.type ∧ ¬ A a
theorem vx_L.moved {C n d : String} {A : Nat → Prop} {u U : State} {H : Heap} (hvm : u.vm.Alike U.vm) (h : vx_L C n d A u H) : vx_L C n d A U H := by
  obtain ⟨c, k, i, f, a, cell, h1, h2, h3, h4, h5, h6, h7, h8, h9, h10⟩ := h
  obtain ⟨k', hi', he⟩ := State.fieldFound?_setVm hvm h2
  exact ⟨c, k', i, f, a, cell, by rw [hvm.findClass]; exact h1, hi', h3, by rw [he]; exact h4, h5, h6, h7, h8, by rw [he]; exact h9, h10⟩
theorem vx_L.kept {C n d : String} {A : Nat → Prop} {U : State} {H H1 : Heap} (h : vx_L C n d A U H) (hq : ∀ a : Nat, a < H.size → ¬ A a → H1[a]? = H[a]?) : vx_L C n d A U H1 := by
  obtain ⟨c, k, i, f, a, cell, h1, h2, h3, h4, h5, h6, h7, h8, h9, h10⟩ := h
  exact ⟨c, k, i, f, a, cell, h1, h2, h3, h4, by rw [hq a (Array.getElem?_eq_some_iff.mp h5).1 h10]; exact h5, h6, h7, h8, h9, h10⟩
theorem vx_L.narrow {C n d : String} {A B : Nat → Prop} {U : State} {H : Heap} (h : vx_L C n d A U H) (hAB : ∀ q, B q → A q) : vx_L C n d B U H := by
  obtain ⟨c, k, i, f, a, cell, h1, h2, h3, h4, h5, h6, h7, h8, h9, h10⟩ := h
  exact ⟨c, k, i, f, a, cell, h1, h2, h3, h4, h5, h6, h7, h8, h9, fun z => h10 (hAB _ z)⟩
theorem vx_L.word {C n d : String} {A : Nat → Prop} {s : State} {args : Array Value} (h : vx_L C n d A s s.heap) : (Cond.laysStatic C n d).before args s = true := by
  obtain ⟨c, k, i, f, a, cell, h1, h2, h3, h4, h5, h6, h7, h8, h9, -⟩ := h
  show (Cond.laysStatic C n d).holds args s none s [] = true
  exact Cond.laysStatic_of h1 h2 h3 h4 h5 h6 h7 h8 h9
/-- .. and what it holds: null or some reference -/
def vx_Zq (C n d : String) (A : Nat → Prop) (U : State) (H : Heap) : Prop := va_Zq C n d A U H ∧ vx_L C n d A U H
theorem vx_Zq.moved {C n d : String} {A : Nat → Prop} {u U : State} {H : Heap} (hvm : u.vm.Alike U.vm) (h : vx_Zq C n d A u H) : vx_Zq C n d A U H := ⟨va_Zq.moved hvm h.1, vx_L.moved hvm h.2⟩
theorem vx_Zq.kept {C n d : String} {A : Nat → Prop} {U : State} {H H1 : Heap} (h : vx_Zq C n d A U H) (hq : ∀ a : Nat, a < H.size → ¬ A a → H1[a]? = H[a]?) : vx_Zq C n d A U H1 := ⟨va_Zq.kept h.1 hq, vx_L.kept h.2 hq⟩
theorem vx_Zq.narrow {C n d : String} {A B : Nat → Prop} {U : State} {H : Heap} (h : vx_Zq C n d A U H) (hAB : ∀ q, B q → A q) : vx_Zq C n d B U H := ⟨va_Zq.narrow h.1 hAB, vx_L.narrow h.2 hAB⟩
theorem vx_Zqof {args : Array Value} {s : State} {C n d : String} {A : Nat → Prop} (hl : (Cond.laysStatic C n d).before args s = true) (hini : (Cond.initialized C).before args s = true) (h : (Cond.isRef (.static C n d)).before args s = true) (hA : ∀ a : Nat, a < s.heap.size → ¬ A a) : vx_Zq C n d A s s.heap := by
  refine ⟨va_Zqof hl hini h hA, ?_⟩
  obtain ⟨c, k, i, f, a, cell, h1, h2, h3, h4, h5, h6, h7, h8, h9⟩ := Cond.laysStatic_spec hl
  exact ⟨c, k, i, f, a, cell, h1, h2, h3, h4, h5, h6, h7, h8, h9, hA a (Array.getElem?_eq_some_iff.mp h5).1⟩
theorem vx_isRef {C n d : String} {v : Value} {A : Nat → Prop} {s : State} {args : Array Value} (h : va_Z C n d v A s s.heap) (hv : v.isRef = true) : (Cond.isRef (.static C n d)).before args s = true := by
  obtain ⟨cf, kf, fi, f, a, cell, h1, h2, h3, h4, h5, h6, h7, -⟩ := h
  have he : (Term.static C n d).eval args s none [] s = some v := by
    simp [Term.eval, State.fieldNamed?, h1, h2, h4, h5, h6, h7]
  simp only [Cond.before, Cond.holds, Cond.value, he]
  cases v <;> simp_all [Value.isRef]
theorem vx_isRefq {C n d : String} {A : Nat → Prop} {s : State} {args : Array Value} (h : va_Zq C n d A s s.heap) : (Cond.isRef (.static C n d)).before args s = true := by
  rcases h with h | ⟨t, h⟩
  · exact vx_isRef h rfl
  · exact vx_isRef h rfl
/-- the same frame, seen from here: as if the method were called anew in this heap -/
theorem vx_rebase {T : State} (X : Stand p l e R s m args below meth c T locs cells slots) {R' : Room} (hf : R'.frames ≤ R.frames) (hl : R'.locals ≤ R.locals) (hc : cells + R'.cells ≤ R.cells) (hs : slots + R'.slots ≤ R.slots) :
    Stand p l e R' ((T.setVm s.vm).setFrames (.invoking m args :: below)) m args below meth c T [] 0 0 := by
  have htop : (T.setVm s.vm).topJava?.isSome := X.here.top
  have hF : ((T.setVm s.vm).setFrames (.invoking m args :: below)).frames = .invoking m args :: below := State.frames_setFrames _ (State.cur_lt_of_top htop)
  obtain ⟨g₀, hg0⟩ := Option.isSome_iff_exists.mp htop
  obtain ⟨r, hr⟩ := State.topJava?_eq_some.mp hg0
  have hl9 : e.platform.stackLimits (T.setVm s.vm).me = e.platform.stackLimits s.me := X.limits
  have hb9 : (T.setVm s.vm).me.stackBytes = s.me.stackBytes := X.bytes
  refine ⟨X.admits, X.cas, X.clock, hF, ?_, X.hears, X.method, X.code, X.here, X.tail, X.warmed, ?_, ?_, ?_⟩
  · have h := X.room
    have hU : ((T.setVm s.vm).setFrames (.invoking m args :: below)).localsInUse = s.localsInUse := by
      rw [State.localsInUse_invoking hF (meth := meth) (c := c) X.method X.code, State.localsInUse_invoking X.frames X.method X.code]
    simp only [State.hasRoom, Bool.and_eq_true, decide_eq_true_eq] at h ⊢
    obtain ⟨⟨⟨⟨h1, h2, h3, h4, h5, h6⟩, h7⟩, h8⟩, h9⟩ := h
    rw [X.frames, List.length_cons] at h2 h3
    have q1 := X.heapSize
    have q2 := X.used
    simp only [hF, hU, List.length_cons, State.stackLimits_setFrames, State.stackBytes_setFrames, hl9, hb9]
    refine ⟨⟨⟨⟨by omega, by omega, by omega, by omega, by omega, h6⟩, ?_⟩, ?_⟩, X.book⟩
    · show T.heap.size + R'.cells ≤ e.platform.maxCells
      omega
    · show T.slotsUsed + R'.slots ≤ e.platform.maxSlots
      omega
  · rw [State.stackLimits_setFrames]; rfl
  · rw [State.stackBytes_setFrames]; rfl
  · refine ⟨?_, Nat.le_refl _, Nat.le_refl _, ?_, ?_, fun a c9 h9 => ⟨c9, h9, rfl, rfl, fun _ _ => rfl⟩⟩
    · obtain ⟨t, ht, -⟩ := State.frames_cons hr
      show T.setVm s.vm = { ((T.setVm s.vm).setFrames (.invoking m args :: below)).setFrames (T.setVm s.vm).frames with heap := T.heap, slotsUsed := T.slotsUsed }
      rw [State.setFrames_setFrames, State.setFrames_self ht]
      rfl
    · show T.slotsUsed = T.slotsUsed + ((T.heap.toList.drop T.heap.size).map (·.slots.size)).sum
      rw [List.drop_eq_nil_of_le (Nat.le_of_eq Array.length_toList)]
      rfl
    · show ((T.heap.toList.drop T.heap.size).map (·.slots.size)).sum ≤ 0
      rw [List.drop_eq_nil_of_le (Nat.le_of_eq Array.length_toList)]
      exact Nat.le_refl _
/-- 'throw new E()': new; dup; invokespecial; athrow -/
theorem vx_throw0 {cc : ByteArray} {pc : Nat} (hexec : p.tables.exec = Jvm.exec) (hb : c.code = cc) (hl : l.stackTraces = false) {own cls : String} {names : List String} {ik ic mc ms : Nat} {A : Nat → Prop}
    (hown : s.vm.findClass own = some m.cls) (hcls : Bundle.fit cls = true) (hnames : ∀ n ∈ names, Bundle.fit n = true)
    (hk : (Cond.classLink own ik cls).before args s = true) (hini : (Cond.initialized cls).before args s = true) (hat : ∀ w ∈ vx_at0 own ic cls names, w.before args s = true)
    (hgood : ∀ w ∈ Cond.classLink own ik cls :: Cond.initialized cls :: vx_at0 own ic cls names, vx_ot w = true)
    (hU : vx_Zq Bundle.tN "UNASSIGNED_STACK" Bundle.steD A s s.heap) (hN : vx_Zq Bundle.tN "SUPPRESSED_SENTINEL" Bundle.listD A s s.heap) (hS : va_S A s.heap H locs) (hsize : ls.size = c.maxLocals)
    (d0 : decode cc pc = .ok (.new ik, 3)) (d3 : decode cc (pc + 3) = .ok (.dup, 1)) (d4 : decode cc (pc + 4) = .ok (.invokespecial ic, 3)) (d7 : decode cc (pc + 7) = .ok (.athrow, 1))
    (hout : ∀ x ∈ c.exceptionTable.toList, covers x (pc + 7) = false)
    (hRframes : names.length + 3 < R.frames) (hRlocals : (rest.map fun v => v.category).sum + (13 * (names.length + 1) + 42) ≤ R.locals) (hRcells : cells + 1 ≤ R.cells) (hRslots : slots + 6 ≤ R.slots) (hlocks : meth.locks = false)
    (hx : ∀ t : State, s.vm.Alike t.vm → H.size ≤ t.heap.size → (∀ q : Nat, q < H.size → t.heap[q]? = H[q]?) → XC cls s t)
    (hf : ∀ z ∈ locs, free z.base) (hc : cells + 1 ≤ mc) (hs : slots + 6 ≤ ms) :
    W p l e R s m args below meth c H locs cells slots (vx_MQ below Qc XC args s mc ms free) (F0 m pc ls rest) := by
  intro T hT X
  have htr : e.platform.stackTraces = false := (show e.platform.stackTraces = l.stackTraces by rw [X.admits.platform]).trans hl
  have Y := vx_rebase X (R' := { frames := R.frames, locals := R.locals, cells := 1, slots := 6 }) (Nat.le_refl _) (Nat.le_refl _) hRcells hRslots
  obtain ⟨s', hA⟩ : ∃ z, z = (T.setVm s.vm).setFrames (.invoking m args :: below) := ⟨_, rfl⟩
  rw [← hA] at Y
  have hvm : s'.vm = s.vm := by rw [hA]; rfl
  have hhp : s'.heap = H := by rw [hA]; exact hT
  have hW0 : s.WarmedH s'.vm := by rw [hvm]; exact State.WarmedH.refl s
  have hat' : ∀ w ∈ vx_at0 own ic cls names, w.before args s' = true := fun w hw => vx_ot_at hW0 hvm.symm (hgood w (List.mem_cons_of_mem _ (List.mem_cons_of_mem _ hw))) (hat w hw)
  have hk' : (Cond.classLink own ik cls).before args s' = true := vx_ot_at hW0 hvm.symm (hgood _ List.mem_cons_self) hk
  have hini' : (Cond.initialized cls).before args s' = true := vx_ot_at hW0 hvm.symm (hgood _ (List.mem_cons_of_mem _ List.mem_cons_self)) hini
  have hU' : vx_Zq Bundle.tN "UNASSIGNED_STACK" Bundle.steD A s' s'.heap := by rw [hhp]; exact vx_Zq.moved hW0.alike (hU.kept hS.2.1)
  have hN' : vx_Zq Bundle.tN "SUPPRESSED_SENTINEL" Bundle.listD A s' s'.heap := by rw [hhp]; exact vx_Zq.moved hW0.alike (hN.kept hS.2.1)
  have h : ∀ w ∈ Bundle.ownAtoms0 own ic cls names, w.before args s' = true := vx_own hat' (vx_isRefq hU'.1) (vx_isRefq hN'.1) hU'.2.word hN'.2.word
  have hown' : s'.vm.findClass own = some m.cls := by rw [hvm]; exact hown
  have hins : (Cond.instantiable cls 6).before args s' = true := h _ (by simp [Bundle.ownAtoms0])
  obtain ⟨vm₁, cX, kX, hfX, hkX, -, -, X₁, st1⟩ := Y.newCold hexec (own := own) (C := cls) (index := ik) (n := 6) hown' hk' hins hini'
    (g := F0 m pc ls rest) rfl (by rw [hb]; exact d0) (Nat.le_refl _) (Nat.le_refl _)
  generalize hT1 : (T.setVm vm₁).pushCell { cls := cX, slots := kX.instanceTypes.map defaultValue, vm := .none } = T1 at X₁ st1
  have hcat : (Value.ref T.heap.size).category = 1 := rfl
  have hcellA : T1.heap[T.heap.size]? = some (freshCell cX kX) := by rw [← hT1]; exact State.heap_pushCell_size _ _
  have d3' : decode c.code (pc + 3) = .ok (.dup, 1) := by rw [hb]; exact d3
  obtain ⟨U, hsteps, hrun, hend, hW, hsame, ce, hce, hO⟩ := X₁.ctorThrow0 hexec htr (own := own) (cls := cls) (names := names) (ic := ic) hown' hcls hnames h (fun x hx => nomatch hx) hfX hkX hcellA (by rw [hhp, hT]; exact Nat.le_refl _)
    (g := { method := m, pc := pc + 4, locals := ls, stack := .ref T.heap.size :: .ref T.heap.size :: rest, locked := none }) rfl hsize rfl rfl (rest := rest) rfl
    (by rw [hb]; exact d4) (by rw [hb]; exact d7) hout hRframes (by simp only [List.map_cons, List.sum_cons, hcat]; omega) hlocks
  obtain ⟨f1, f2⟩ := vx_frame hsame
  rw [hhp] at f1 f2
  have hWs : s.WarmedH U.vm := State.WarmedH.trans hW0 hW
  have hcl : s.vm.findClass cls = some ce.cls := by
    have h9 := hO.cls
    rw [hvm] at h9
    exact h9
  have hall : s.sameButNew ({ U with vm := s.vm } : State) locs mc ms := by
    subst hA
    obtain ⟨e1, e2⟩ := hsame
    rw [State.setFrames_setFrames] at e1
    have h2 : (T.setVm s.vm).sameButNew ({ U with vm := s.vm } : State) [] (0 + 1) (0 + 6) := ⟨e1, e2⟩
    have h3 := X.same.trans h2
    rw [List.append_nil] at h3
    exact h3.mono hc hs
  refine ⟨U, ?_, .threw T.heap.size, hrun, hend, Or.inr ⟨T.heap.size, rfl, cls, ce, locs, hx U hWs.alike f1 (fun q hq => f2 q hq (fun z hz => nomatch hz)), hce, hO.vm, hcl, hWs, hall, hf⟩⟩
  refine st1 _ ?_
  show Steps p.tables e below (T1.setTop { method := m, pc := pc + 3, locals := ls, stack := .ref T.heap.size :: rest, locked := none }) _
  jvm_step X₁.here [X₁.here.top, hexec, d3', Value.category]
  exact hsteps
/-- 'throw new E("text")': new; dup; ldc; invokespecial; athrow -/
theorem vx_throwS {cc : ByteArray} {pc : Nat} (hexec : p.tables.exec = Jvm.exec) (hb : c.code = cc) (hl : l.stackTraces = false) {own cls text : String} {names : List String} {ik is ic mc ms sa : Nat} {A : Nat → Prop}
    (hown : s.vm.findClass own = some m.cls) (hcls : Bundle.fit cls = true) (hnames : ∀ n ∈ names, Bundle.fit n = true)
    (hk : (Cond.classLink own ik cls).before args s = true) (hini : (Cond.initialized cls).before args s = true) (hstr : vk_R own is text sa s) (hat : ∀ w ∈ vx_atS own ic cls names, w.before args s = true)
    (hgood : ∀ w ∈ Cond.classLink own ik cls :: Cond.initialized cls :: vx_atS own ic cls names, vx_ot w = true)
    (hU : vx_Zq Bundle.tN "UNASSIGNED_STACK" Bundle.steD A s s.heap) (hN : vx_Zq Bundle.tN "SUPPRESSED_SENTINEL" Bundle.listD A s s.heap) (hS : va_S A s.heap H locs) (hsize : ls.size = c.maxLocals)
    (d0 : decode cc pc = .ok (.new ik, 3)) (d3 : decode cc (pc + 3) = .ok (.dup, 1)) (d4 : decode cc (pc + 4) = .ok (.ldc is, 2)) (d6 : decode cc (pc + 6) = .ok (.invokespecial ic, 3)) (d9 : decode cc (pc + 9) = .ok (.athrow, 1))
    (hout : ∀ x ∈ c.exceptionTable.toList, covers x (pc + 9) = false)
    (hRframes : names.length + 3 < R.frames) (hRlocals : (rest.map fun v => v.category).sum + (13 * (names.length + 1) + 43) ≤ R.locals) (hRcells : cells + 1 ≤ R.cells) (hRslots : slots + 6 ≤ R.slots) (hlocks : meth.locks = false)
    (hx : ∀ t : State, s.vm.Alike t.vm → H.size ≤ t.heap.size → (∀ q : Nat, q < H.size → t.heap[q]? = H[q]?) → XC cls s t)
    (hf : ∀ z ∈ locs, free z.base) (hc : cells + 1 ≤ mc) (hs : slots + 6 ≤ ms) :
    W p l e R s m args below meth c H locs cells slots (vx_MQ below Qc XC args s mc ms free) (F0 m pc ls rest) := by
  intro T hT X
  have htr : e.platform.stackTraces = false := (show e.platform.stackTraces = l.stackTraces by rw [X.admits.platform]).trans hl
  have Y := vx_rebase X (R' := { frames := R.frames, locals := R.locals, cells := 1, slots := 6 }) (Nat.le_refl _) (Nat.le_refl _) hRcells hRslots
  obtain ⟨s', hA⟩ : ∃ z, z = (T.setVm s.vm).setFrames (.invoking m args :: below) := ⟨_, rfl⟩
  rw [← hA] at Y
  have hvm : s'.vm = s.vm := by rw [hA]; rfl
  have hhp : s'.heap = H := by rw [hA]; exact hT
  have hW0 : s.WarmedH s'.vm := by rw [hvm]; exact State.WarmedH.refl s
  have hat' : ∀ w ∈ vx_atS own ic cls names, w.before args s' = true := fun w hw => vx_ot_at hW0 hvm.symm (hgood w (List.mem_cons_of_mem _ (List.mem_cons_of_mem _ hw))) (hat w hw)
  have hk' : (Cond.classLink own ik cls).before args s' = true := vx_ot_at hW0 hvm.symm (hgood _ List.mem_cons_self) hk
  have hini' : (Cond.initialized cls).before args s' = true := vx_ot_at hW0 hvm.symm (hgood _ (List.mem_cons_of_mem _ List.mem_cons_self)) hini
  have hU' : vx_Zq Bundle.tN "UNASSIGNED_STACK" Bundle.steD A s' s'.heap := by rw [hhp]; exact vx_Zq.moved hW0.alike (hU.kept hS.2.1)
  have hN' : vx_Zq Bundle.tN "SUPPRESSED_SENTINEL" Bundle.listD A s' s'.heap := by rw [hhp]; exact vx_Zq.moved hW0.alike (hN.kept hS.2.1)
  have h : ∀ w ∈ Bundle.ownAtoms own ic cls names, w.before args s' = true := vx_own hat' (vx_isRefq hU'.1) (vx_isRefq hN'.1) hU'.2.word hN'.2.word
  have hown' : s'.vm.findClass own = some m.cls := by rw [hvm]; exact hown
  have hins : (Cond.instantiable cls 6).before args s' = true := h _ (by simp [Bundle.ownAtoms])
  obtain ⟨vm₁, cX, kX, hfX, hkX, -, -, X₁, st1⟩ := Y.newCold hexec (own := own) (C := cls) (index := ik) (n := 6) hown' hk' hins hini'
    (g := F0 m pc ls rest) rfl (by rw [hb]; exact d0) (Nat.le_refl _) (Nat.le_refl _)
  generalize hT1 : (T.setVm vm₁).pushCell { cls := cX, slots := kX.instanceTypes.map defaultValue, vm := .none } = T1 at X₁ st1
  have hcat : (Value.ref T.heap.size).category = 1 := rfl
  have hcellA : T1.heap[T.heap.size]? = some (freshCell cX kX) := by rw [← hT1]; exact State.heap_pushCell_size _ _
  have d3' : decode c.code (pc + 3) = .ok (.dup, 1) := by rw [hb]; exact d3
  have d4' : decode c.code (pc + 4) = .ok (.ldc is, 2) := by rw [hb]; exact d4
  have hstr' : vk_R own is text sa s' := vk_R.warm hW0 hstr
  obtain ⟨U, hsteps, hrun, hend, hW, hsame, ce, hce, hO⟩ := X₁.ctorThrowS hexec htr (own := own) (cls := cls) (names := names) (ic := ic) hown' hcls hnames h (fun x hx => nomatch hx) hfX hkX hcellA (by rw [hhp, hT]; exact Nat.le_refl _) (msg := .ref sa) rfl
    (g := { method := m, pc := pc + 6, locals := ls, stack := .ref sa :: .ref T.heap.size :: .ref T.heap.size :: rest, locked := none }) rfl hsize rfl rfl (rest := rest) rfl
    (by rw [hb]; exact d6) (by rw [hb]; exact d9) hout hRframes (by simp only [List.map_cons, List.sum_cons, hcat]; omega) hlocks
  obtain ⟨f1, f2⟩ := vx_frame hsame
  rw [hhp] at f1 f2
  have hWs : s.WarmedH U.vm := State.WarmedH.trans hW0 hW
  have hcl : s.vm.findClass cls = some ce.cls := by
    have h9 := hO.cls
    rw [hvm] at h9
    exact h9
  have hall : s.sameButNew ({ U with vm := s.vm } : State) locs mc ms := by
    subst hA
    obtain ⟨e1, e2⟩ := hsame
    rw [State.setFrames_setFrames] at e1
    have h2 : (T.setVm s.vm).sameButNew ({ U with vm := s.vm } : State) [] (0 + 1) (0 + 6) := ⟨e1, e2⟩
    have h3 := X.same.trans h2
    rw [List.append_nil] at h3
    exact h3.mono hc hs
  refine ⟨U, ?_, .threw T.heap.size, hrun, hend, Or.inr ⟨T.heap.size, rfl, cls, ce, locs, hx U hWs.alike f1 (fun q hq => f2 q hq (fun z hz => nomatch hz)), hce, hO.vm, hcl, hWs, hall, hf⟩⟩
  refine st1 _ ?_
  show Steps p.tables e below (T1.setTop { method := m, pc := pc + 3, locals := ls, stack := .ref T.heap.size :: rest, locked := none }) _
  jvm_step X₁.here [X₁.here.top, hexec, d3', Value.category]
  exact X₁.ldcString hexec (own := own) (text := text) (index := is) (a := sa) hown' hstr'.1 hstr'.2
    (g := { method := m, pc := pc + 4, locals := ls, stack := .ref T.heap.size :: .ref T.heap.size :: rest, locked := none }) rfl d4' _ hsteps
/-- 'throw new E("text")', the text by a wide index -/
theorem vx_throwSW {cc : ByteArray} {pc : Nat} (hexec : p.tables.exec = Jvm.exec) (hb : c.code = cc) (hl : l.stackTraces = false) {own cls text : String} {names : List String} {ik is ic mc ms sa : Nat} {A : Nat → Prop}
    (hown : s.vm.findClass own = some m.cls) (hcls : Bundle.fit cls = true) (hnames : ∀ n ∈ names, Bundle.fit n = true)
    (hk : (Cond.classLink own ik cls).before args s = true) (hini : (Cond.initialized cls).before args s = true) (hstr : vk_R own is text sa s) (hat : ∀ w ∈ vx_atS own ic cls names, w.before args s = true)
    (hgood : ∀ w ∈ Cond.classLink own ik cls :: Cond.initialized cls :: vx_atS own ic cls names, vx_ot w = true)
    (hU : vx_Zq Bundle.tN "UNASSIGNED_STACK" Bundle.steD A s s.heap) (hN : vx_Zq Bundle.tN "SUPPRESSED_SENTINEL" Bundle.listD A s s.heap) (hS : va_S A s.heap H locs) (hsize : ls.size = c.maxLocals)
    (d0 : decode cc pc = .ok (.new ik, 3)) (d3 : decode cc (pc + 3) = .ok (.dup, 1)) (d4 : decode cc (pc + 4) = .ok (.ldc_w is, 3)) (d7 : decode cc (pc + 7) = .ok (.invokespecial ic, 3)) (d10 : decode cc (pc + 10) = .ok (.athrow, 1))
    (hout : ∀ x ∈ c.exceptionTable.toList, covers x (pc + 10) = false)
    (hRframes : names.length + 3 < R.frames) (hRlocals : (rest.map fun v => v.category).sum + (13 * (names.length + 1) + 43) ≤ R.locals) (hRcells : cells + 1 ≤ R.cells) (hRslots : slots + 6 ≤ R.slots) (hlocks : meth.locks = false)
    (hx : ∀ t : State, s.vm.Alike t.vm → H.size ≤ t.heap.size → (∀ q : Nat, q < H.size → t.heap[q]? = H[q]?) → XC cls s t)
    (hf : ∀ z ∈ locs, free z.base) (hc : cells + 1 ≤ mc) (hs : slots + 6 ≤ ms) :
    W p l e R s m args below meth c H locs cells slots (vx_MQ below Qc XC args s mc ms free) (F0 m pc ls rest) := by
  intro T hT X
  have htr : e.platform.stackTraces = false := (show e.platform.stackTraces = l.stackTraces by rw [X.admits.platform]).trans hl
  have Y := vx_rebase X (R' := { frames := R.frames, locals := R.locals, cells := 1, slots := 6 }) (Nat.le_refl _) (Nat.le_refl _) hRcells hRslots
  obtain ⟨s', hA⟩ : ∃ z, z = (T.setVm s.vm).setFrames (.invoking m args :: below) := ⟨_, rfl⟩
  rw [← hA] at Y
  have hvm : s'.vm = s.vm := by rw [hA]; rfl
  have hhp : s'.heap = H := by rw [hA]; exact hT
  have hW0 : s.WarmedH s'.vm := by rw [hvm]; exact State.WarmedH.refl s
  have hat' : ∀ w ∈ vx_atS own ic cls names, w.before args s' = true := fun w hw => vx_ot_at hW0 hvm.symm (hgood w (List.mem_cons_of_mem _ (List.mem_cons_of_mem _ hw))) (hat w hw)
  have hk' : (Cond.classLink own ik cls).before args s' = true := vx_ot_at hW0 hvm.symm (hgood _ List.mem_cons_self) hk
  have hini' : (Cond.initialized cls).before args s' = true := vx_ot_at hW0 hvm.symm (hgood _ (List.mem_cons_of_mem _ List.mem_cons_self)) hini
  have hU' : vx_Zq Bundle.tN "UNASSIGNED_STACK" Bundle.steD A s' s'.heap := by rw [hhp]; exact vx_Zq.moved hW0.alike (hU.kept hS.2.1)
  have hN' : vx_Zq Bundle.tN "SUPPRESSED_SENTINEL" Bundle.listD A s' s'.heap := by rw [hhp]; exact vx_Zq.moved hW0.alike (hN.kept hS.2.1)
  have h : ∀ w ∈ Bundle.ownAtoms own ic cls names, w.before args s' = true := vx_own hat' (vx_isRefq hU'.1) (vx_isRefq hN'.1) hU'.2.word hN'.2.word
  have hown' : s'.vm.findClass own = some m.cls := by rw [hvm]; exact hown
  have hins : (Cond.instantiable cls 6).before args s' = true := h _ (by simp [Bundle.ownAtoms])
  obtain ⟨vm₁, cX, kX, hfX, hkX, -, -, X₁, st1⟩ := Y.newCold hexec (own := own) (C := cls) (index := ik) (n := 6) hown' hk' hins hini'
    (g := F0 m pc ls rest) rfl (by rw [hb]; exact d0) (Nat.le_refl _) (Nat.le_refl _)
  generalize hT1 : (T.setVm vm₁).pushCell { cls := cX, slots := kX.instanceTypes.map defaultValue, vm := .none } = T1 at X₁ st1
  have hcat : (Value.ref T.heap.size).category = 1 := rfl
  have hcellA : T1.heap[T.heap.size]? = some (freshCell cX kX) := by rw [← hT1]; exact State.heap_pushCell_size _ _
  have d3' : decode c.code (pc + 3) = .ok (.dup, 1) := by rw [hb]; exact d3
  have d4' : decode c.code (pc + 4) = .ok (.ldc_w is, 3) := by rw [hb]; exact d4
  have hstr' : vk_R own is text sa s' := vk_R.warm hW0 hstr
  obtain ⟨U, hsteps, hrun, hend, hW, hsame, ce, hce, hO⟩ := X₁.ctorThrowS hexec htr (own := own) (cls := cls) (names := names) (ic := ic) hown' hcls hnames h (fun x hx => nomatch hx) hfX hkX hcellA (by rw [hhp, hT]; exact Nat.le_refl _) (msg := .ref sa) rfl
    (g := { method := m, pc := pc + 7, locals := ls, stack := .ref sa :: .ref T.heap.size :: .ref T.heap.size :: rest, locked := none }) rfl hsize rfl rfl (rest := rest) rfl
    (by rw [hb]; exact d7) (by rw [hb]; exact d10) hout hRframes (by simp only [List.map_cons, List.sum_cons, hcat]; omega) hlocks
  obtain ⟨f1, f2⟩ := vx_frame hsame
  rw [hhp] at f1 f2
  have hWs : s.WarmedH U.vm := State.WarmedH.trans hW0 hW
  have hcl : s.vm.findClass cls = some ce.cls := by
    have h9 := hO.cls
    rw [hvm] at h9
    exact h9
  have hall : s.sameButNew ({ U with vm := s.vm } : State) locs mc ms := by
    subst hA
    obtain ⟨e1, e2⟩ := hsame
    rw [State.setFrames_setFrames] at e1
    have h2 : (T.setVm s.vm).sameButNew ({ U with vm := s.vm } : State) [] (0 + 1) (0 + 6) := ⟨e1, e2⟩
    have h3 := X.same.trans h2
    rw [List.append_nil] at h3
    exact h3.mono hc hs
  refine ⟨U, ?_, .threw T.heap.size, hrun, hend, Or.inr ⟨T.heap.size, rfl, cls, ce, locs, hx U hWs.alike f1 (fun q hq => f2 q hq (fun z hz => nomatch hz)), hce, hO.vm, hcl, hWs, hall, hf⟩⟩
  refine st1 _ ?_
  show Steps p.tables e below (T1.setTop { method := m, pc := pc + 3, locals := ls, stack := .ref T.heap.size :: rest, locked := none }) _
  jvm_step X₁.here [X₁.here.top, hexec, d3', Value.category]
  exact X₁.ldcStringW hexec (own := own) (text := text) (index := is) (a := sa) hown' hstr'.1 hstr'.2
    (g := { method := m, pc := pc + 4, locals := ls, stack := .ref T.heap.size :: .ref T.heap.size :: rest, locked := none }) rfl d4' _ hsteps
end Ends
section Bodies
variable {l : Launch}
theorem vx_ofW {y : MethodName} {ws ws' : List Cond} {rm : Room} {Pc : Array Value → State → Prop} {Qc : Array Value → State → Outcome → State → Prop} {XC : String → State → State → Prop} {mc ms : Nat} {free : Addr → Prop} {cc : ByteArray} {maxL : Nat} {ret : Option FieldType}
    (hy : plainName y.cls = true) (hw : ws = Cond.code y cc maxL ret :: ws')
    (body : ∀ p e s m args below meth c s₁, BodyLoose p l y (headSpec ws rm) cc maxL ret e s m args below meth c s₁ → c.maxLocals = maxL → (∀ x ∈ c.exceptionTable.toList, False) → Pc args s →
      W p l e (headSpec ws rm).room s m args below meth c s.heap [] 0 0 (vx_MQ below Qc XC args s mc ms free) (entryFrame m args maxL)) : vx_Met l y ws rm Pc Qc XC mc ms free := by
  refine MetFree.of_bodyS (code := cc) (maxLocals := maxL) (ret := ret) hy ?_ ?_
  · intro args s m h hn
    obtain ⟨meth, c, h1, h2, h3, h4, h5, h6, -, -⟩ := Cond.code_spec hn (atoms_spec (ws := ws) h _ (by rw [hw]; exact List.mem_cons_self))
    exact ⟨meth, c, h1, h2, h3, h4, h5, h6⟩
  · intro p e s m args below meth c s₁ B hml hP _
    have hh0 : s₁.heap = s.heap := by rw [B.state]; rfl
    have ht : ∀ x ∈ c.exceptionTable.toList, False := by
      obtain ⟨meth9, c9, h1, h2, -, -, -, -, h7, -⟩ := Cond.code_spec B.named (atoms_spec (ws := ws) B.pre _ (by rw [hw]; exact List.mem_cons_self))
      cases Option.some.inj (h1.symm.trans B.method)
      cases Option.some.inj (h2.symm.trans (Stand.of_body B).code)
      intro x hx
      rw [Array.isEmpty_iff.mp h7] at hx
      cases hx
    obtain ⟨t, a1, o, b1, b2, b3⟩ := body p e s m args below meth c s₁ B hml ht hP s₁ hh0 (Stand.of_body B)
    exact ⟨t, o, a1, b1, b2, b3⟩
/-- the table of a body with handlers -/
theorem vx_table {p : Program} {x y : MethodName} {S : Spec} {cc bytes : ByteArray} {maxL maxL' : Nat} {ret ret' : Option FieldType} {e : Env} {s s₁ : State} {m : MethodId} {args : Array Value} {below : List Frame} {meth : Method} {c : Code} {hh : List (Nat × Nat × Nat × Nat)}
    (B : BodyLoose p l y S cc maxL ret e s m args below meth c s₁) (h : (Cond.codeWith y bytes maxL' ret' hh).before args s = true) : c.exceptionTable.toList = tableOf hh := by
  obtain ⟨m9, meth9, c9, hn9, h1, h2, -, -, h6, -⟩ := Cond.codeWith_spec h
  cases Option.some.inj (hn9.symm.trans B.named)
  cases Option.some.inj (h1.symm.trans B.method)
  cases Option.some.inj (h2.symm.trans (Stand.of_body B).code)
  rw [← h6, table_eq]
end Bodies
end VXA
/-! ===== END ===== -/
/-! ===== BEGIN a static call of a method with an exception table ===== -/
section VXS
variable {p : Program} {l : Launch} {e : Env} {R : Room} {s : State} {m : MethodId} {args : Array Value} {below : List Frame} {meth : Method} {c : Code} {T : State} {H : Heap} {locs : List Loc} {cells slots : Nat}
abbrev vx_CSW (R : Room) (s : State) (args : Array Value) (own : String) (index : Nat) (y : MethodName) (bytes : ByteArray) (maxL : Nat) (ret : Option FieldType) (hh : List (Nat × Nat × Nat × Nat)) (ws : List Cond) (rm : Room) (mc ms n : Nat) : Prop :=
  (rm.cells = mc ∧ rm.slots = ms ∧ rm.frames + 1 ≤ R.frames ∧ 8 + (maxL + 11) + rm.locals ≤ R.locals ∧ (∀ w ∈ ws, ∀ (a' : Array Value) (U : State), s.WarmedH U.vm → w.before a' U = true) ∧ Cond.codeWith y bytes maxL ret hh ∈ ws) ∧
  (Cond.codeWith y bytes maxL ret hh).before args s = true ∧ (Cond.initialized y.cls).before args s = true ∧ (y.cls ≠ "java/lang/invoke/MethodHandle" ∧ y.cls ≠ "java/lang/invoke/VarHandle") ∧
  (∀ sig, parseMethodDescriptor y.desc = some sig → n = sig.parameters.length) ∧ (Cond.methodLink own index y).before args s = true ∧ (Cond.static y).before args s = true
theorem vx_cwSW {own : String} {index maxL mc ms : Nat} {y : MethodName} {bytes : ByteArray} {ret : Option FieldType} {hh : List (Nat × Nat × Nat × Nat)} {Ts ws ws' : List Cond} {rm : Room} (n : Nat) (ht : ∀ w ∈ Ts, w.before args s = true) (hT : GoodIn Ts (va_wsS own index y ws)) (hw : ws = Cond.codeWith y bytes maxL ret hh :: ws') (hrc : rm.cells = mc) (hrs : rm.slots = ms)
    (hd : y.cls ≠ "java/lang/invoke/MethodHandle" ∧ y.cls ≠ "java/lang/invoke/VarHandle" ∧ (parseMethodDescriptor y.desc).map (fun d => d.parameters.length) = some n) (hR : rm.frames + 1 ≤ R.frames ∧ 8 + (maxL + 11) + rm.locals ≤ R.locals) :
    vx_CSW R s args own index y bytes maxL ret hh ws rm mc ms n := by
  have ok : ∀ w ∈ va_wsS own index y ws, w.before args s = true := fun w h => ht w (hT w h).1
  have hG : GoodIn Ts ws := fun w h => hT w (by unfold va_wsS; exact List.mem_append_right _ h)
  have hc : Cond.codeWith y bytes maxL ret hh ∈ ws := by rw [hw]; exact List.mem_cons_self
  refine ⟨⟨hrc, hrs, hR.1, hR.2, pay_in ht hG, hc⟩, ht _ (hG _ hc).1, ok _ (by simp [va_wsS]), ⟨hd.1, hd.2.1⟩, fun sig h => ?_, ok _ (by simp [va_wsS]), ok _ (by simp [va_wsS])⟩
  have h2 := hd.2.2
  rw [h] at h2
  exact (Option.some.inj h2).symm
theorem vx_callSW (X : Stand p l e R s m args below meth c T locs cells slots) (hexec : p.tables.exec = Jvm.exec) {own : String} {index : Nat} {y : MethodName} {bytes : ByteArray} {maxL : Nat} {ret : Option FieldType} {hh : List (Nat × Nat × Nat × Nat)}
    (hown : s.vm.findClass own = some m.cls) (hlink : (Cond.methodLink own index y).before args s = true) (hstat : (Cond.static y).before args s = true) (hinit : (Cond.initialized y.cls).before args s = true)
    (hcode : (Cond.codeWith y bytes maxL ret hh).before args s = true) (hy : y.cls ≠ "java/lang/invoke/MethodHandle" ∧ y.cls ≠ "java/lang/invoke/VarHandle")
    {W9 : Nat} {Pre : Pt → Array Value → Prop} {Post : Pt → Array Value → Option Value → Pt → Prop} (hK : Back l R p e below s args y 3 W9 Pre Post)
    {g : JFrame} (hg : g.method = m) (hsize : g.locals.size = c.maxLocals) {argsL rest : List Value} (hlen : ∀ sig, parseMethodDescriptor y.desc = some sig → argsL.length = sig.parameters.length)
    (hstack : g.stack = argsL.reverse ++ rest) (hW : 2 * g.monitorRoom + (rest.map fun v => v.category).sum ≤ W9) (hdg : decode c.code g.pc = .ok (.invokestatic index, 3))
    (hpre : ∀ vm₁, s.WarmedH vm₁ → Pre ⟨T.setVm vm₁, locs, cells, slots⟩ argsL.toArray) :
    ∃ (v : Option Value) (vm₁ : Vm) (B : Pt), s.WarmedH vm₁ ∧ Stand p l e R s m args below meth c B.U B.locs B.cells B.slots ∧ Post ⟨T.setVm vm₁, locs, cells, slots⟩ argsL.toArray v B ∧
      ∀ target, Steps p.tables e below (B.U.setTop { g with pc := g.pc + 3, stack := v.toList ++ rest }) target → Steps p.tables e below (T.setTop g) target := by
  obtain ⟨mk, methM, cM, hnamed, hmethM, -, -, -, -, -, -, hsigM⟩ := Cond.codeWith_spec hcode
  have hstatic : methM.isStatic = true := Cond.static_spec hnamed hmethM hstat
  obtain ⟨kP, hkP, -⟩ := className_of_methodNamed hnamed
  have hinitP : kP.init = .initialized := Cond.initialized_spec (findClass_of_methodNamed hnamed) hkP hinit
  obtain ⟨vm₁, X₁, hstep₁⟩ := X.invokestatic hexec hown hlink hnamed hmethM hstatic hkP hinitP hy (g := g) hg (argsL := argsL) (rest := rest) (hlen _ hsigM) hstack hdg
  obtain ⟨v, B, X', hpost, hsteps⟩ := hK m meth c ⟨T.setVm vm₁, locs, cells, slots⟩ { g with stack := rest } (.invokestatic index) mk argsL.toArray X₁ hg hsize hdg hW (X₁.named hnamed) (hpre vm₁ X₁.warmed)
  exact ⟨v, vm₁, B, X₁.warmed, X', hpost, fun target h => hstep₁ _ fun acts => by rw [doInvoke_state]; exact hsteps.trans h⟩
theorem vx_runSW {y : MethodName} {bytes cc : ByteArray} {maxL nL mc ms n index : Nat} {ret : Option FieldType} {hh : List (Nat × Nat × Nat × Nat)} {ws : List Cond} {rm : Room} {Pc : Array Value → State → Prop} {Qc : Array Value → State → Outcome → State → Prop} {free : Addr → Prop} {Ts : List Cond} {own : String} {As rest : List Value} {g : JFrame}
    (S : CallFix p m c cc nL s args Ts own) (hM : Met l y ws rm Pc Qc mc ms free) (cw : vx_CSW R s args own index y bytes maxL ret hh ws rm mc ms n) (hp : PreS s H Pc As)
    (hg : g.method = m) (hn : As.length = n) (hsize : g.locals.size = nL) (hstack : g.stack = As.reverse ++ rest) (hW : 2 * g.monitorRoom + (rest.map fun v => v.category).sum ≤ 8) (hdg : decode cc g.pc = .ok (.invokestatic index, 3)) (hf : cells + mc ≤ R.cells ∧ slots + ms ≤ R.slots) :
    va_Run p l e R s m args below meth c H locs cells slots mc ms g rest (Qc As.toArray) (free) := by
  obtain ⟨⟨hrc, hrs, hfr, hlo, hws, hcw⟩, hcode, hini, hy, hlen, hl, hstt⟩ := cw
  have hK : Back l R p e below s args y 3 8 (PreOf R mc ms Pc) (PostOf Qc mc ms free) := va_backW (hh := hh) (bytes := bytes) (maxL := maxL) (ret := ret) hM hp.1 hrc hrs hfr hlo hws hcw (fun a' U hW => word_at hW (Or.inl (by first | rfl | simp [Cond.onTables, Cond.keeps, Cond.steady])) hini)
  obtain ⟨hx, hb, hml, ho, -⟩ := S
  intro T hT X
  obtain ⟨v, vm₁, ⟨U', l2, c2, s2⟩, hW₁, X', ⟨g', mk, t, L, e1, e2, hq, h1, hL, h2, h3⟩, st⟩ := vx_callSW X hx (hh := hh) (bytes := bytes) (maxL := maxL) (ret := ret) ho hl hstt hini hcode hy hK hg (hsize.trans hml.symm) (argsL := As) (rest := rest) (fun sig h => hn.trans (hlen sig h)) hstack hW (by rw [hb]; exact hdg)
    (fun vm₁ hW₁ => ⟨hf.1, hf.2, hp.2 (T.setVm vm₁) hT hW₁⟩)
  dsimp only [Pt.U, Pt.locs, Pt.cells, Pt.slots] at X' e1 e2 h1 h2 h3 st
  subst h1; subst h2; subst h3
  exact ⟨v, (T.setVm vm₁).calling g' mk As.toArray, t, U', L, hT, X', hL, e1, e2, hq, st⟩
/-- not caught here, past rows that name other classes: it goes on to the caller -/
theorem vx_outP {p : Program} {l : Launch} {e : Env} {R : Room} {s : State} {m : MethodId} {args : Array Value} {below : List Frame} {meth : Method} {c : Code} {H : Heap} {locs : List Loc} {cells slots : Nat} {free : Addr → Prop} {ls : Array Slot} {rest : List Value} {Qc : Array Value → State → Outcome → State → Prop} {XC : String → State → State → Prop}
    {pc : Nat} {own E : String} {ce : Cell} {q : Addr} {mc ms : Nat} (hown : s.vm.findClass own = some m.cls) (hlocks : meth.locks = false)
    (hpass : ∀ z ∈ c.exceptionTable.toList, covers z pc = false ∨ (z.catchType ≠ 0 ∧ ∃ nm : String, (Cond.classLink own z.catchType nm).before args s = true ∧ va_Nc E nm s)) (hcell : H[q]? = some ce) (hv : ce.vm = .none) (hcl : s.vm.findClass E = some ce.cls)
    (hx : ∀ t : State, t.heap = H → s.vm.Alike t.vm → XC E s t) (hf : ∀ z ∈ locs, free z.base) (hc : cells ≤ mc) (hs : slots ≤ ms) :
    vx_W p l e R s m args below meth c H locs cells slots (vx_MQ below Qc XC args s mc ms free) (F0 m pc ls rest) q := by
  intro T hT X
  have hpl : e.platform.magicAccessors = ({} : Platform).magicAccessors := by rw [X.admits.platform]
  obtain ⟨vm', hW', X', st⟩ := X.outThrough hlocks q (g := F0 m pc ls rest) rfl rfl rfl (cell := ce) (by rw [hT]; exact hcell) (by rw [hv]; rfl)
    (by obtain ⟨k9, h9, -⟩ := Vm.findClass_spec hcl; exact ⟨k9, h9⟩) (fun z hz => by
      rcases hpass z hz with h | ⟨hz0, nm, hl1, hn1⟩
      · exact Or.inl h
      · obtain ⟨c6, hc6, hcl6⟩ := Cond.classLink_spec hown hl1 e.platform hpl
        obtain ⟨a8, b8, h1, h2, h3⟩ := hn1
        cases Option.some.inj (h1.symm.trans hcl)
        cases Option.some.inj (h2.symm.trans hc6)
        exact Or.inr ⟨hz0, _, hcl6, h3⟩)
  obtain ⟨g₀, hfr⟩ := X'.frames_eq
  have hcell9 : ((T.setVm vm').setFrames (.throwing q :: below)).heap[q]? = some ce := by
    show T.heap[q]? = some ce
    rw [hT]; exact hcell
  have hend : Ended ((T.setVm vm').setFrames (.throwing q :: below)) below (.threw q) := State.frames_setFrames _ (State.cur_lt_of_frames hfr)
  refine ⟨(T.setVm vm').setFrames (.throwing q :: below), ?_, .threw q, X'.here.running, hend, Or.inr ⟨q, rfl, E, ce, locs, hx _ hT (X'.ends _).1.alike, hcell9, hv, hcl, (X'.ends _).1, (X'.ends _).2.mono hc hs, hf⟩⟩
  rw [X.pushThrowing_eq]
  exact st
/-- a thing of a world lies in the heap -/
theorem vx_lt {D : va_G} {cl : List vw_C} {ws : va_W} {H1 : Heap} (h : va_P D cl ws H1) {k : Nat} {q : Nat × va_E} (hk : ws[k]? = some q) : q.1 < H1.size := (h k q hk).lt
end VXS
/-! ===== END ===== -/
/-! ===== BEGIN methods with a table of their own: called by a name, returning or throwing ===== -/
section VXH
/-! vx_backW, vx_callVX, vx_callSX, vx_callVW, vx_runVW, vx_runVX, vx_runSX, vx_ofWH follow the same proofs as their sisters above (Free/Laws.lean, Shelf42/LK1.lean); vx_outP calls Shelf42/NT130.lean (outThrough). -/
section
variable {l : Launch} {R : Room} {p : Program} {e : Env} {below : List Frame} {s : State} {sargs : Array Value} {y : MethodName} {len W9 : Nat}
theorem vx_backW {ws : List Cond} {rm : Room} {Pc : Array Value → State → Prop} {Qc : Array Value → State → Outcome → State → Prop} {XC : String → State → State → Prop} {mc ms : Nat} {free : Addr → Prop} {bytes : ByteArray} {maxL : Nat} {ret : Option FieldType} {hh : List (Nat × Nat × Nat × Nat)}
    (hM : vx_Met l y ws rm Pc Qc XC mc ms free) (hblind : FrameBlind Pc) (hrc : rm.cells = mc) (hrs : rm.slots = ms)
    (hframes : rm.frames + 1 ≤ R.frames) (hlocals : W9 + (maxL + 11) + rm.locals ≤ R.locals)
    (hws : ∀ w ∈ ws, ∀ a' U, s.WarmedH U.vm → w.before a' U = true) (hcode : Cond.codeWith y bytes maxL ret hh ∈ ws) (hinit : ∀ a' U, s.WarmedH U.vm → (Cond.initialized y.cls).before a' U = true) :
    vx_Back l R p e below s sargs y len W9 (PreOf R mc ms Pc) (PostOf Qc mc ms free) (vx_Post XC mc ms free) := by
  intro m meth c A g ig mk a X hg hsize hdg hW hn hp
  have h1 : (headSpec ws rm).pre.before a A.U = true := atoms_intro fun w hw => hws w hw _ _ X.warmed
  have h2 : (Cond.codeWith y bytes maxL ret hh).before a A.U = true := hws _ hcode _ _ X.warmed
  have h3 : (Cond.initialized y.cls).before a A.U = true := hinit _ _ X.warmed
  have h4 : A.cells + (headSpec ws rm).room.cells ≤ R.cells := by rw [show (headSpec ws rm).room.cells = mc from hrc]; exact hp.1
  have h5 : A.slots + (headSpec ws rm).room.slots ≤ R.slots := by rw [show (headSpec ws rm).room.slots = ms from hrs]; exact hp.2.1
  have hPc : Pc a (A.U.calling g mk a) := hblind _ _ _ _ hp.2.2
  obtain ⟨U, Ls, c0, s0⟩ := A
  dsimp only [Pt.U, Pt.locs, Pt.cells, Pt.slots] at h1 h2 h3 h4 h5 X hn hPc ⊢
  obtain ⟨m9, methY, cY, hn9, hmY, hcY, -, hlY, -⟩ := Cond.codeWith_spec h2
  cases Option.some.inj (hn9.symm.trans hn)
  obtain ⟨kY, hkY, -⟩ := className_of_methodNamed hn
  have hinitY : kY.init = .initialized := Cond.initialized_spec (findClass_of_methodNamed hn) hkY h3
  have h : At U g.method c below := by rw [hg]; exact X.here
  have hlocals9 : W9 + (maxL + 11) + (headSpec ws rm).room.locals ≤ R.locals := hlocals
  have happ : (headSpec ws rm).appliesLoose y e.platform (U.calling g mk a) = true :=
    Spec.appliesLoose_calling (g := g) h hdg hn hkY hinitY
      (X.room_calling (g := g) (R' := (headSpec ws rm).room) hsize hmY hcY hframes (by rw [hlY]; omega) h4 h5) h1
  obtain ⟨mid, hmid⟩ := h.above
  have hfr : (U.setTop g).frames = (.java g :: mid) ++ below := by rw [State.frames_setTop' g h.top, hmid]; rfl
  obtain ⟨o, s₂, hsteps, -, hend, hq⟩ := Steps.callFree hM p X.admits X.cas X.clock (acts := []) hfr happ hPc trivial
  have hq' : vx_Q Qc XC mc ms free a (U.calling g mk a) o s₂ := hq
  rw [State.frames_setTop' g h.top] at hend
  obtain ⟨g₀, hg0⟩ := Option.isSome_iff_exists.mp h.top
  obtain ⟨r, hr⟩ := State.topJava?_eq_some.mp hg0
  have hr' : (({ U with heap := s₂.heap, slotsUsed := s₂.slotsUsed } : State).setVm s₂.vm).frames = .java g₀ :: r := hr
  rcases hq' with ⟨hqc, L, hfe, hL⟩ | ⟨q, rfl, E, ce, L, hx, hce, hcv, hcl, hW₂, hsm, hL⟩
  · obtain ⟨⟨v, rfl⟩, hW₂, e2, q2, q3, q4, q5, q6⟩ := id hfe
    have e3 : s₂ = ({ (U.calling g mk a).setFrames s₂.frames with heap := s₂.heap, slotsUsed := s₂.slotsUsed } : State).setVm s₂.vm := by
      have : s₂ = ({ s₂ with vm := (U.calling g mk a).vm } : State).setVm s₂.vm := rfl
      rw [e2] at this
      exact this
    obtain ⟨c₂, i₂, len₂, hc₂, hd₂, hf₂⟩ := hend
    have hW' : U.WarmedH s₂.vm := hW₂
    have hcc : c₂ = c := by
      have h1 : s₂.code? g.method = U.code? g.method := by
        rw [State.code?_eq, State.code?_eq, hW'.alike.method?]
      exact Option.some.inj (hc₂.symm.trans (h1.trans h.code))
    subst hcc
    have hlen : len₂ = len := by rw [hdg] at hd₂; cases hd₂; rfl
    subst hlen
    have hs₂ : s₂ = (({ U with heap := s₂.heap, slotsUsed := s₂.slotsUsed } : State).setVm s₂.vm).setTop { g with pc := g.pc + len₂, stack := v.toList ++ g.stack } := by
      refine e3.trans ?_
      rw [hf₂, State.calling_eq h.top, State.setFrames_setFrames, State.setTop_of_frames _ hr', hr]
      rfl
    have hsame : U.sameButNew ({ U with heap := s₂.heap, slotsUsed := s₂.slotsUsed } : State) L mc ms := by
      refine ⟨?_, q2, q3, q4, q5, q6⟩
      obtain ⟨t, ht, -⟩ := State.frames_cons hr
      show ({ U with heap := s₂.heap, slotsUsed := s₂.slotsUsed } : State) = { U.setFrames U.frames with heap := s₂.heap, slotsUsed := s₂.slotsUsed }
      rw [State.setFrames_self ht]
    subst hg
    refine Or.inl ⟨v, ⟨(({ U with heap := s₂.heap, slotsUsed := s₂.slotsUsed } : State).setVm s₂.vm), Ls ++ L, c0 + mc, s0 + ms⟩,
      ⟨X.admits, X.cas, X.clock, X.frames, X.room, X.hears, X.method, X.code, (X.here.setHeapUsed s₂.heap s₂.slotsUsed).setVm hW'.alike, X.tail, State.WarmedH.trans X.warmed hW', X.limits, X.bytes, X.same.trans (hsame.setVm s.vm)⟩,
      ⟨g, mk, s₂, L, rfl, rfl, hqc, rfl, hL, rfl, rfl⟩, ?_⟩
    show Steps p.tables e below _ ((({ U with heap := s₂.heap, slotsUsed := s₂.slotsUsed } : State).setVm s₂.vm).setTop { g with pc := g.pc + len₂, stack := v.toList ++ g.stack })
    rw [← hs₂]
    exact hsteps
  · obtain ⟨e2, q2, q3, q4, q5, q6⟩ := id hsm
    have e3 : s₂ = ({ (U.calling g mk a).setFrames s₂.frames with heap := s₂.heap, slotsUsed := s₂.slotsUsed } : State).setVm s₂.vm := by
      have : s₂ = ({ s₂ with vm := (U.calling g mk a).vm } : State).setVm s₂.vm := rfl
      rw [e2] at this
      exact this
    have hf₂ : s₂.frames = .throwing q :: .java g :: U.frames.tail := hend
    have hW' : U.WarmedH s₂.vm := hW₂
    have hs₂ : s₂ = ((({ U with heap := s₂.heap, slotsUsed := s₂.slotsUsed } : State).setVm s₂.vm).setTop g).pushFrame (.throwing q) := by
      refine e3.trans ?_
      rw [hf₂, State.calling_eq h.top, State.setFrames_setFrames, State.pushFrame, State.frames_setTop _ hr', State.setTop_of_frames _ hr', State.setFrames_setFrames, hr]
      rfl
    have hsame : U.sameButNew ({ U with heap := s₂.heap, slotsUsed := s₂.slotsUsed } : State) L mc ms := by
      refine ⟨?_, q2, q3, q4, q5, q6⟩
      obtain ⟨t, ht, -⟩ := State.frames_cons hr
      show ({ U with heap := s₂.heap, slotsUsed := s₂.slotsUsed } : State) = { U.setFrames U.frames with heap := s₂.heap, slotsUsed := s₂.slotsUsed }
      rw [State.setFrames_self ht]
    subst hg
    refine Or.inr ⟨q, ⟨(({ U with heap := s₂.heap, slotsUsed := s₂.slotsUsed } : State).setVm s₂.vm), Ls ++ L, c0 + mc, s0 + ms⟩,
      ⟨X.admits, X.cas, X.clock, X.frames, X.room, X.hears, X.method, X.code, (X.here.setHeapUsed s₂.heap s₂.slotsUsed).setVm hW'.alike, X.tail, State.WarmedH.trans X.warmed hW', X.limits, X.bytes, X.same.trans (hsame.setVm s.vm)⟩,
      ⟨g, mk, s₂, L, E, ce, rfl, rfl, hx, hce, hcv, hcl, rfl, hL, rfl, rfl⟩, ?_⟩
    show Steps p.tables e below _ (((({ U with heap := s₂.heap, slotsUsed := s₂.slotsUsed } : State).setVm s₂.vm).setTop g).pushFrame (.throwing q))
    rw [← hs₂]
    exact hsteps
end
variable {p : Program} {l : Launch} {e : Env} {R : Room} {s : State} {m : MethodId} {args : Array Value} {below : List Frame} {meth : Method} {c : Code} {T : State} {H : Heap} {locs : List Loc} {cells slots : Nat}
theorem vx_callVX (X : Stand p l e R s m args below meth c T locs cells slots) (hexec : p.tables.exec = Jvm.exec) {own C : String} {index : Nat} {y : MethodName} {bytes : ByteArray} {maxL : Nat} {ret : Option FieldType} {hh : List (Nat × Nat × Nat × Nat)}
    (hown : s.vm.findClass own = some m.cls) (hlink : (Cond.methodLink own index y).before args s = true) (hinst : (Cond.instanceMethod y).before args s = true) (hsel : (Cond.selects C y y).before args s = true)
    (hcode : (Cond.codeWith y bytes maxL ret hh).before args s = true) (hy : y.cls ≠ "java/lang/invoke/MethodHandle" ∧ y.cls ≠ "java/lang/invoke/VarHandle")
    {W9 : Nat} {Pre : Pt → Array Value → Prop} {Post : Pt → Array Value → Option Value → Pt → Prop} {PostX : Pt → Array Value → Addr → Pt → Prop} (hK : vx_Back l R p e below s args y 3 W9 Pre Post PostX)
    {b : Addr} {cellB : Cell} (hcell : T.heap[b]? = some cellB) (hobj : cellB.vm.isStatics = false) (hcls : s.vm.findClass C = some cellB.cls)
    {g : JFrame} (hg : g.method = m) (hsize : g.locals.size = c.maxLocals) {argsL rest : List Value} (hlen : ∀ sig, parseMethodDescriptor y.desc = some sig → argsL.length = sig.parameters.length)
    (hstack : g.stack = argsL.reverse ++ .ref b :: rest) (hW : 2 * g.monitorRoom + (rest.map fun v => v.category).sum ≤ W9) (hdg : decode c.code g.pc = .ok (.invokevirtual index, 3))
    (hpre : ∀ vm₁, s.WarmedH vm₁ → Pre ⟨T.setVm vm₁, locs, cells, slots⟩ (Value.ref b :: argsL).toArray) :
    (∃ (v : Option Value) (vm₁ : Vm) (B : Pt), s.WarmedH vm₁ ∧ Stand p l e R s m args below meth c B.U B.locs B.cells B.slots ∧ Post ⟨T.setVm vm₁, locs, cells, slots⟩ (Value.ref b :: argsL).toArray v B ∧
      ∀ target, Steps p.tables e below (B.U.setTop { g with pc := g.pc + 3, stack := v.toList ++ rest }) target → Steps p.tables e below (T.setTop g) target) ∨
    (∃ (q : Addr) (vm₁ : Vm) (B : Pt), s.WarmedH vm₁ ∧ Stand p l e R s m args below meth c B.U B.locs B.cells B.slots ∧ PostX ⟨T.setVm vm₁, locs, cells, slots⟩ (Value.ref b :: argsL).toArray q B ∧
      Steps p.tables e below (T.setTop g) ((B.U.setTop { g with stack := rest }).pushFrame (.throwing q))) := by
  obtain ⟨mk, methM, hnamed, hmethM, hstM, habM⟩ := Cond.instanceMethod_spec hinst
  obtain ⟨m8, methM', cM, hn8, hmethM', -, -, -, -, -, -, hsigM⟩ := Cond.codeWith_spec hcode
  cases Option.some.inj (hn8.symm.trans hnamed)
  cases hmethM.symm.trans hmethM'
  obtain ⟨c2, r2, m2, q1, q2, q3, q4, kP, hkP, hkPi⟩ := Cond.selects_spec hsel
  cases hcls.symm.trans q1
  cases (State.methodFound?_of_named hnamed hy).symm.trans q2
  cases hnamed.symm.trans q3
  have hselP : selectMethod e.platform s.vm cellB.cls mk = .method mk := by rw [Launch.admits_selectMethod X.admits]; exact q4
  obtain ⟨vm₁, X₁, hstep₁⟩ := X.invokevirtual hexec hown hlink hnamed hmethM hstM hkP hkPi hy (a := b) (cell := cellB) hcell
    (fun z h => by rw [h] at hobj; cases hobj) hselP hmethM habM hkP hkPi (g := g) hg (argsL := argsL) (rest := rest) (hlen _ hsigM) hstack hdg
  rcases hK m meth c ⟨T.setVm vm₁, locs, cells, slots⟩ { g with stack := rest } (.invokevirtual index) mk (Value.ref b :: argsL).toArray X₁ hg hsize hdg hW (X₁.named hnamed) (hpre vm₁ X₁.warmed) with ⟨v, B, X', hpost, hsteps⟩ | ⟨q, B, X', hpost, hsteps⟩
  · exact Or.inl ⟨v, vm₁, B, X₁.warmed, X', hpost, fun target h => hstep₁ _ fun acts => by rw [doInvoke_state]; exact hsteps.trans h⟩
  · exact Or.inr ⟨q, vm₁, B, X₁.warmed, X', hpost, hstep₁ _ fun acts => by rw [doInvoke_state]; exact hsteps⟩
theorem vx_callSX (X : Stand p l e R s m args below meth c T locs cells slots) (hexec : p.tables.exec = Jvm.exec) {own : String} {index : Nat} {y : MethodName} {bytes : ByteArray} {maxL : Nat} {ret : Option FieldType} {hh : List (Nat × Nat × Nat × Nat)}
    (hown : s.vm.findClass own = some m.cls) (hlink : (Cond.methodLink own index y).before args s = true) (hstat : (Cond.static y).before args s = true) (hinit : (Cond.initialized y.cls).before args s = true)
    (hcode : (Cond.codeWith y bytes maxL ret hh).before args s = true) (hy : y.cls ≠ "java/lang/invoke/MethodHandle" ∧ y.cls ≠ "java/lang/invoke/VarHandle")
    {W9 : Nat} {Pre : Pt → Array Value → Prop} {Post : Pt → Array Value → Option Value → Pt → Prop} {PostX : Pt → Array Value → Addr → Pt → Prop} (hK : vx_Back l R p e below s args y 3 W9 Pre Post PostX)
    {g : JFrame} (hg : g.method = m) (hsize : g.locals.size = c.maxLocals) {argsL rest : List Value} (hlen : ∀ sig, parseMethodDescriptor y.desc = some sig → argsL.length = sig.parameters.length)
    (hstack : g.stack = argsL.reverse ++ rest) (hW : 2 * g.monitorRoom + (rest.map fun v => v.category).sum ≤ W9) (hdg : decode c.code g.pc = .ok (.invokestatic index, 3))
    (hpre : ∀ vm₁, s.WarmedH vm₁ → Pre ⟨T.setVm vm₁, locs, cells, slots⟩ argsL.toArray) :
    (∃ (v : Option Value) (vm₁ : Vm) (B : Pt), s.WarmedH vm₁ ∧ Stand p l e R s m args below meth c B.U B.locs B.cells B.slots ∧ Post ⟨T.setVm vm₁, locs, cells, slots⟩ argsL.toArray v B ∧
      ∀ target, Steps p.tables e below (B.U.setTop { g with pc := g.pc + 3, stack := v.toList ++ rest }) target → Steps p.tables e below (T.setTop g) target) ∨
    (∃ (q : Addr) (vm₁ : Vm) (B : Pt), s.WarmedH vm₁ ∧ Stand p l e R s m args below meth c B.U B.locs B.cells B.slots ∧ PostX ⟨T.setVm vm₁, locs, cells, slots⟩ argsL.toArray q B ∧
      Steps p.tables e below (T.setTop g) ((B.U.setTop { g with stack := rest }).pushFrame (.throwing q))) := by
  obtain ⟨mk, methM, cM, hnamed, hmethM, -, -, -, -, -, -, hsigM⟩ := Cond.codeWith_spec hcode
  have hstatic : methM.isStatic = true := Cond.static_spec hnamed hmethM hstat
  obtain ⟨kP, hkP, -⟩ := className_of_methodNamed hnamed
  have hinitP : kP.init = .initialized := Cond.initialized_spec (findClass_of_methodNamed hnamed) hkP hinit
  obtain ⟨vm₁, X₁, hstep₁⟩ := X.invokestatic hexec hown hlink hnamed hmethM hstatic hkP hinitP hy (g := g) hg (argsL := argsL) (rest := rest) (hlen _ hsigM) hstack hdg
  rcases hK m meth c ⟨T.setVm vm₁, locs, cells, slots⟩ { g with stack := rest } (.invokestatic index) mk argsL.toArray X₁ hg hsize hdg hW (X₁.named hnamed) (hpre vm₁ X₁.warmed) with ⟨v, B, X', hpost, hsteps⟩ | ⟨q, B, X', hpost, hsteps⟩
  · exact Or.inl ⟨v, vm₁, B, X₁.warmed, X', hpost, fun target h => hstep₁ _ fun acts => by rw [doInvoke_state]; exact hsteps.trans h⟩
  · exact Or.inr ⟨q, vm₁, B, X₁.warmed, X', hpost, hstep₁ _ fun acts => by rw [doInvoke_state]; exact hsteps⟩
theorem vx_callVW (X : Stand p l e R s m args below meth c T locs cells slots) (hexec : p.tables.exec = Jvm.exec) {own C : String} {index : Nat} {y : MethodName} {bytes : ByteArray} {maxL : Nat} {ret : Option FieldType} {hh : List (Nat × Nat × Nat × Nat)}
    (hown : s.vm.findClass own = some m.cls) (hlink : (Cond.methodLink own index y).before args s = true) (hinst : (Cond.instanceMethod y).before args s = true) (hsel : (Cond.selects C y y).before args s = true)
    (hcode : (Cond.codeWith y bytes maxL ret hh).before args s = true) (hy : y.cls ≠ "java/lang/invoke/MethodHandle" ∧ y.cls ≠ "java/lang/invoke/VarHandle")
    {W9 : Nat} {Pre : Pt → Array Value → Prop} {Post : Pt → Array Value → Option Value → Pt → Prop} (hK : Back l R p e below s args y 3 W9 Pre Post)
    {b : Addr} {cellB : Cell} (hcell : T.heap[b]? = some cellB) (hobj : cellB.vm.isStatics = false) (hcls : s.vm.findClass C = some cellB.cls)
    {g : JFrame} (hg : g.method = m) (hsize : g.locals.size = c.maxLocals) {argsL rest : List Value} (hlen : ∀ sig, parseMethodDescriptor y.desc = some sig → argsL.length = sig.parameters.length)
    (hstack : g.stack = argsL.reverse ++ .ref b :: rest) (hW : 2 * g.monitorRoom + (rest.map fun v => v.category).sum ≤ W9) (hdg : decode c.code g.pc = .ok (.invokevirtual index, 3))
    (hpre : ∀ vm₁, s.WarmedH vm₁ → Pre ⟨T.setVm vm₁, locs, cells, slots⟩ (Value.ref b :: argsL).toArray) :
    ∃ (v : Option Value) (vm₁ : Vm) (B : Pt), s.WarmedH vm₁ ∧ Stand p l e R s m args below meth c B.U B.locs B.cells B.slots ∧ Post ⟨T.setVm vm₁, locs, cells, slots⟩ (Value.ref b :: argsL).toArray v B ∧
      ∀ target, Steps p.tables e below (B.U.setTop { g with pc := g.pc + 3, stack := v.toList ++ rest }) target → Steps p.tables e below (T.setTop g) target := by
  obtain ⟨mk, methM, hnamed, hmethM, hstM, habM⟩ := Cond.instanceMethod_spec hinst
  obtain ⟨m8, methM', cM, hn8, hmethM', -, -, -, -, -, -, hsigM⟩ := Cond.codeWith_spec hcode
  cases Option.some.inj (hn8.symm.trans hnamed)
  cases hmethM.symm.trans hmethM'
  obtain ⟨c2, r2, m2, q1, q2, q3, q4, kP, hkP, hkPi⟩ := Cond.selects_spec hsel
  cases hcls.symm.trans q1
  cases (State.methodFound?_of_named hnamed hy).symm.trans q2
  cases hnamed.symm.trans q3
  have hselP : selectMethod e.platform s.vm cellB.cls mk = .method mk := by rw [Launch.admits_selectMethod X.admits]; exact q4
  obtain ⟨vm₁, X₁, hstep₁⟩ := X.invokevirtual hexec hown hlink hnamed hmethM hstM hkP hkPi hy (a := b) (cell := cellB) hcell
    (fun z h => by rw [h] at hobj; cases hobj) hselP hmethM habM hkP hkPi (g := g) hg (argsL := argsL) (rest := rest) (hlen _ hsigM) hstack hdg
  obtain ⟨v, B, X', hpost, hsteps⟩ := hK m meth c ⟨T.setVm vm₁, locs, cells, slots⟩ { g with stack := rest } (.invokevirtual index) mk (Value.ref b :: argsL).toArray X₁ hg hsize hdg hW (X₁.named hnamed) (hpre vm₁ X₁.warmed)
  exact ⟨v, vm₁, B, X₁.warmed, X', hpost, fun target h => hstep₁ _ fun acts => by rw [doInvoke_state]; exact hsteps.trans h⟩
abbrev vx_CVW (R : Room) (s : State) (args : Array Value) (own C : String) (index : Nat) (y : MethodName) (bytes : ByteArray) (maxL : Nat) (ret : Option FieldType) (hh : List (Nat × Nat × Nat × Nat)) (ws : List Cond) (rm : Room) (mc ms n : Nat) : Prop :=
  (rm.cells = mc ∧ rm.slots = ms ∧ rm.frames + 1 ≤ R.frames ∧ 8 + (maxL + 11) + rm.locals ≤ R.locals ∧ (∀ w ∈ ws, ∀ (a' : Array Value) (U : State), s.WarmedH U.vm → w.before a' U = true) ∧ Cond.codeWith y bytes maxL ret hh ∈ ws) ∧
  (Cond.codeWith y bytes maxL ret hh).before args s = true ∧ (Cond.initialized y.cls).before args s = true ∧ (y.cls ≠ "java/lang/invoke/MethodHandle" ∧ y.cls ≠ "java/lang/invoke/VarHandle") ∧
  (∀ sig, parseMethodDescriptor y.desc = some sig → n = sig.parameters.length) ∧ (Cond.methodLink own index y).before args s = true ∧ (Cond.instanceMethod y).before args s = true ∧ (Cond.selects C y y).before args s = true
theorem vx_cwVW {own C : String} {index maxL mc ms : Nat} {y : MethodName} {bytes : ByteArray} {ret : Option FieldType} {hh : List (Nat × Nat × Nat × Nat)} {Ts ws ws' : List Cond} {rm : Room} (n : Nat) (ht : ∀ w ∈ Ts, w.before args s = true) (hT : GoodIn Ts (wsV own index C y ws)) (hw : ws = Cond.codeWith y bytes maxL ret hh :: ws') (hrc : rm.cells = mc) (hrs : rm.slots = ms)
    (hd : y.cls = C ∧ y.cls ≠ "java/lang/invoke/MethodHandle" ∧ y.cls ≠ "java/lang/invoke/VarHandle" ∧ (parseMethodDescriptor y.desc).map (fun d => d.parameters.length) = some n) (hR : rm.frames + 1 ≤ R.frames ∧ 8 + (maxL + 11) + rm.locals ≤ R.locals) :
    vx_CVW R s args own C index y bytes maxL ret hh ws rm mc ms n := by
  obtain ⟨hC, hd⟩ := hd
  subst hC
  have ok : ∀ w ∈ wsV own index y.cls y ws, w.before args s = true := fun w h => ht w (hT w h).1
  have hG : GoodIn Ts ws := fun w h => hT w (by unfold wsV; exact List.mem_append_right _ h)
  have hc : Cond.codeWith y bytes maxL ret hh ∈ ws := by rw [hw]; exact List.mem_cons_self
  refine ⟨⟨hrc, hrs, hR.1, hR.2, pay_in ht hG, hc⟩, ht _ (hG _ hc).1, ok _ (by simp [wsV]), ⟨hd.1, hd.2.1⟩, fun sig h => ?_, ok _ (by simp [wsV]), ok _ (by simp [wsV]), ok _ (by simp [wsV])⟩
  have h2 := hd.2.2
  rw [h] at h2
  exact (Option.some.inj h2).symm
theorem vx_runVW {y : MethodName} {bytes cc : ByteArray} {maxL nL mc ms n index : Nat} {ret : Option FieldType} {hh : List (Nat × Nat × Nat × Nat)} {ws : List Cond} {rm : Room} {Pc : Array Value → State → Prop} {Qc : Array Value → State → Outcome → State → Prop} {free : Addr → Prop} {Ts : List Cond} {own C : String} {b : Addr} {As rest : List Value} {g : JFrame}
    (S : CallFix p m c cc nL s args Ts own) (hM : Met l y ws rm Pc Qc mc ms free) (cw : vx_CVW R s args own C index y bytes maxL ret hh ws rm mc ms n) (hp : PreV s H C b Pc As)
    (hg : g.method = m) (hn : As.length = n) (hsize : g.locals.size = nL) (hstack : g.stack = As.reverse ++ .ref b :: rest) (hW : 2 * g.monitorRoom + (rest.map fun v => v.category).sum ≤ 8) (hdg : decode cc g.pc = .ok (.invokevirtual index, 3)) (hf : cells + mc ≤ R.cells ∧ slots + ms ≤ R.slots) :
    va_Run p l e R s m args below meth c H locs cells slots mc ms g rest (Qc (Value.ref b :: As).toArray) free := by
  obtain ⟨⟨hrc, hrs, hfr, hlo, hws, hcw⟩, hcode, hini, hy, hlen, hl, hin, hse⟩ := cw
  have hK : Back l R p e below s args y 3 8 (PreOf R mc ms Pc) (PostOf Qc mc ms free) := va_backW (hh := hh) (bytes := bytes) (maxL := maxL) (ret := ret) hM hp.1 hrc hrs hfr hlo hws hcw (fun a' U hW => word_at hW (Or.inl (by first | rfl | simp [Cond.onTables, Cond.keeps, Cond.steady])) hini)
  obtain ⟨hx, hb, hml, ho, -⟩ := S
  obtain ⟨-, ⟨cellB, hcB, hoB, hclB⟩, hPc⟩ := hp
  intro T hT X
  obtain ⟨v, vm₁, ⟨U', l2, c2, s2⟩, hW₁, X', ⟨g', mk, t, L, e1, e2, hq, h1, hL, h2, h3⟩, st⟩ := vx_callVW X hx (C := C) (hh := hh) (bytes := bytes) (maxL := maxL) (ret := ret) ho hl hin hse hcode hy hK (by rw [hT]; exact hcB) hoB hclB hg (hsize.trans hml.symm) (argsL := As) (rest := rest) (fun sig h => hn.trans (hlen sig h)) hstack hW (by rw [hb]; exact hdg)
    (fun vm₁ hW₁ => ⟨hf.1, hf.2, hPc (T.setVm vm₁) hT hW₁⟩)
  dsimp only [Pt.U, Pt.locs, Pt.cells, Pt.slots] at X' e1 e2 h1 h2 h3 st
  subst h1; subst h2; subst h3
  exact ⟨v, (T.setVm vm₁).calling g' mk (Value.ref b :: As).toArray, t, U', L, hT, X', hL, e1, e2, hq, st⟩
section
variable {y : MethodName} {bytes cc : ByteArray} {maxL nL mc ms n index : Nat} {ret : Option FieldType} {ws : List Cond} {rm : Room} {Pc : Array Value → State → Prop} {Qc : Array Value → State → Outcome → State → Prop} {XC : String → State → State → Prop} {free : Addr → Prop} {Ts : List Cond} {own C : String} {b : Addr} {As rest : List Value} {g : JFrame}
theorem vx_runVX {hh : List (Nat × Nat × Nat × Nat)} (S : CallFix p m c cc nL s args Ts own) (hM : vx_Met l y ws rm Pc Qc XC mc ms free) (cw : vx_CVW R s args own C index y bytes maxL ret hh ws rm mc ms n) (hp : PreV s H C b Pc As)
    (hg : g.method = m) (hn : As.length = n) (hsize : g.locals.size = nL) (hstack : g.stack = As.reverse ++ .ref b :: rest) (hW : 2 * g.monitorRoom + (rest.map fun v => v.category).sum ≤ 8) (hdg : decode cc g.pc = .ok (.invokevirtual index, 3)) (hf : cells + mc ≤ R.cells ∧ slots + ms ≤ R.slots) :
    vx_Run p l e R s m args below meth c H locs cells slots mc ms g rest (Qc (Value.ref b :: As).toArray) XC free := by
  obtain ⟨⟨hrc, hrs, hfr, hlo, hws, hcw⟩, hcode, hini, hy, hlen, hl, hin, hse⟩ := cw
  have hK : vx_Back l R p e below s args y 3 8 (PreOf R mc ms Pc) (PostOf Qc mc ms free) (vx_Post XC mc ms free) := vx_backW (hh := hh) (bytes := bytes) (maxL := maxL) (ret := ret) hM hp.1 hrc hrs hfr hlo hws hcw (fun a' U hW => word_at hW (Or.inl (by first | rfl | simp [Cond.onTables, Cond.keeps, Cond.steady])) hini)
  obtain ⟨hx, hb, hml, ho, -⟩ := S
  obtain ⟨-, ⟨cellB, hcB, hoB, hclB⟩, hPc⟩ := hp
  intro T hT X
  rcases vx_callVX X hx (C := C) (hh := hh) (bytes := bytes) (maxL := maxL) (ret := ret) ho hl hin hse hcode hy hK (by rw [hT]; exact hcB) hoB hclB hg (hsize.trans hml.symm) (argsL := As) (rest := rest) (fun sig h => hn.trans (hlen sig h)) hstack hW (by rw [hb]; exact hdg)
    (fun vm₁ hW₁ => ⟨hf.1, hf.2, hPc (T.setVm vm₁) hT hW₁⟩) with ⟨v, vm₁, ⟨U', l2, c2, s2⟩, hW₁, X', ⟨g', mk, t, L, e1, e2, hq, h1, hL, h2, h3⟩, st⟩ | ⟨q, vm₁, ⟨U', l2, c2, s2⟩, hW₁, X', ⟨g', mk, t, L, E, ce, e1, e2, hq, hce, hcv, hcl, h1, hL, h2, h3⟩, st⟩
  · dsimp only [Pt.U, Pt.locs, Pt.cells, Pt.slots] at X' e1 e2 h1 h2 h3 st
    subst h1; subst h2; subst h3
    exact Or.inl ⟨v, (T.setVm vm₁).calling g' mk (Value.ref b :: As).toArray, t, U', L, hT, X', hL, e1, e2, hq, st⟩
  · dsimp only [Pt.U, Pt.locs, Pt.cells, Pt.slots] at X' e1 e2 h1 h2 h3 st hcl
    subst h1; subst h2; subst h3
    exact Or.inr ⟨q, (T.setVm vm₁).calling g' mk (Value.ref b :: As).toArray, t, U', L, E, ce, hT, X', hL, e1, e2, hq, hce, hcv, vx_cls hW₁ hcl, st⟩
theorem vx_runSX {hh : List (Nat × Nat × Nat × Nat)} (S : CallFix p m c cc nL s args Ts own) (hM : vx_Met l y ws rm Pc Qc XC mc ms free) (cw : vx_CSW R s args own index y bytes maxL ret hh ws rm mc ms n) (hp : PreS s H Pc As)
    (hg : g.method = m) (hn : As.length = n) (hsize : g.locals.size = nL) (hstack : g.stack = As.reverse ++ rest) (hW : 2 * g.monitorRoom + (rest.map fun v => v.category).sum ≤ 8) (hdg : decode cc g.pc = .ok (.invokestatic index, 3)) (hf : cells + mc ≤ R.cells ∧ slots + ms ≤ R.slots) :
    vx_Run p l e R s m args below meth c H locs cells slots mc ms g rest (Qc As.toArray) XC free := by
  obtain ⟨⟨hrc, hrs, hfr, hlo, hws, hcw⟩, hcode, hini, hy, hlen, hl, hstt⟩ := cw
  have hK : vx_Back l R p e below s args y 3 8 (PreOf R mc ms Pc) (PostOf Qc mc ms free) (vx_Post XC mc ms free) := vx_backW (hh := hh) (bytes := bytes) (maxL := maxL) (ret := ret) hM hp.1 hrc hrs hfr hlo hws hcw (fun a' U hW => word_at hW (Or.inl (by first | rfl | simp [Cond.onTables, Cond.keeps, Cond.steady])) hini)
  obtain ⟨hx, hb, hml, ho, -⟩ := S
  intro T hT X
  rcases vx_callSX X hx (hh := hh) (bytes := bytes) (maxL := maxL) (ret := ret) ho hl hstt hini hcode hy hK hg (hsize.trans hml.symm) (argsL := As) (rest := rest) (fun sig h => hn.trans (hlen sig h)) hstack hW (by rw [hb]; exact hdg)
    (fun vm₁ hW₁ => ⟨hf.1, hf.2, hp.2 (T.setVm vm₁) hT hW₁⟩) with ⟨v, vm₁, ⟨U', l2, c2, s2⟩, hW₁, X', ⟨g', mk, t, L, e1, e2, hq, h1, hL, h2, h3⟩, st⟩ | ⟨q, vm₁, ⟨U', l2, c2, s2⟩, hW₁, X', ⟨g', mk, t, L, E, ce, e1, e2, hq, hce, hcv, hcl, h1, hL, h2, h3⟩, st⟩
  · dsimp only [Pt.U, Pt.locs, Pt.cells, Pt.slots] at X' e1 e2 h1 h2 h3 st
    subst h1; subst h2; subst h3
    exact Or.inl ⟨v, (T.setVm vm₁).calling g' mk As.toArray, t, U', L, hT, X', hL, e1, e2, hq, st⟩
  · dsimp only [Pt.U, Pt.locs, Pt.cells, Pt.slots] at X' e1 e2 h1 h2 h3 st hcl
    subst h1; subst h2; subst h3
    exact Or.inr ⟨q, (T.setVm vm₁).calling g' mk As.toArray, t, U', L, E, ce, hT, X', hL, e1, e2, hq, hce, hcv, vx_cls hW₁ hcl, st⟩
end
end VXH
theorem vx_ofWH {l : Launch} {y : MethodName} {ws ws' : List Cond} {rm : Room} {Pc : Array Value → State → Prop} {Qc : Array Value → State → Outcome → State → Prop} {XC : String → State → State → Prop} {mc ms : Nat} {free : Addr → Prop} {cc : ByteArray} {maxL : Nat} {ret : Option FieldType} {hh : List (Nat × Nat × Nat × Nat)}
    (hy : plainName y.cls = true) (hw : ws = Cond.codeWith y cc maxL ret hh :: ws')
    (body : ∀ p e s m args below meth c s₁, BodyLoose p l y (headSpec ws rm) cc maxL ret e s m args below meth c s₁ → c.maxLocals = maxL → Pc args s →
      W p l e (headSpec ws rm).room s m args below meth c s.heap [] 0 0 (vx_MQ below Qc XC args s mc ms free) (entryFrame m args maxL)) : vx_Met l y ws rm Pc Qc XC mc ms free := by
  refine MetFree.of_bodyS (code := cc) (maxLocals := maxL) (ret := ret) hy ?_ ?_
  · intro args s m h hn
    obtain ⟨m9, meth, c, hn9, h1, h2, h3, h4, -, h5, h6, -⟩ := Cond.codeWith_spec (atoms_spec (ws := ws) h _ (by rw [hw]; exact List.mem_cons_self))
    cases hn.symm.trans hn9
    exact ⟨meth, c, h1, h2, h3, h4, h5, h6⟩
  · intro p e s m args below meth c s₁ B hml hP _
    have hh0 : s₁.heap = s.heap := by rw [B.state]; rfl
    obtain ⟨t, a1, o, b1, b2, b3⟩ := body p e s m args below meth c s₁ B hml hP s₁ hh0 (Stand.of_body B)
    exact ⟨t, o, a1, b1, b2, b3⟩
/-! ===== END ===== -/
end
section
section VXIA
variable {p : Program} {l : Launch} {e : Env} {R : Room} {s : State} {m : MethodId} {args : Array Value} {below : List Frame} {meth : Method} {c : Code} {T : State} {locs : List Loc} {cells slots : Nat}
theorem vx_callI (X : Stand p l e R s m args below meth c T locs cells slots) (hexec : p.tables.exec = Jvm.exec) {own : String} {index : Nat} {y : MethodName} {bytes : ByteArray} {maxL : Nat}
    (hown : s.vm.findClass own = some m.cls) (hy1 : y.name = "<init>") (hlink : (Cond.methodLink own index y).before args s = true) (hinst : (Cond.instanceMethod y).before args s = true)
    (hcode : (Cond.code y bytes maxL none).before args s = true) (hy : y.cls ≠ "java/lang/invoke/MethodHandle" ∧ y.cls ≠ "java/lang/invoke/VarHandle")
    {W9 : Nat} {Pre : Pt → Array Value → Prop} {Post : Pt → Array Value → Option Value → Pt → Prop} {PostX : Pt → Array Value → Addr → Pt → Prop} (hK : vx_Back l R p e below s args y 3 W9 Pre Post PostX)
    {g : JFrame} (hg : g.method = m) (hsize : g.locals.size = c.maxLocals) {a : Addr} {argsL rest : List Value} (hlen : ∀ sig, parseMethodDescriptor y.desc = some sig → argsL.length = sig.parameters.length)
    (hstack : g.stack = argsL.reverse ++ .ref a :: rest) (hW : 2 * g.monitorRoom + (rest.map fun v => v.category).sum ≤ W9) (hdg : decode c.code g.pc = .ok (.invokespecial index, 3))
    (hpre : ∀ vm₁, s.WarmedH vm₁ → Pre ⟨T.setVm vm₁, locs, cells, slots⟩ (Value.ref a :: argsL).toArray) :
    (∃ (v : Option Value) (vm₁ : Vm) (B : Pt), s.WarmedH vm₁ ∧ Stand p l e R s m args below meth c B.U B.locs B.cells B.slots ∧ Post ⟨T.setVm vm₁, locs, cells, slots⟩ (Value.ref a :: argsL).toArray v B ∧
      ∀ target, Steps p.tables e below (B.U.setTop { g with pc := g.pc + 3, stack := v.toList ++ rest }) target → Steps p.tables e below (T.setTop g) target) ∨
    (∃ (q : Addr) (vm₁ : Vm) (B : Pt), s.WarmedH vm₁ ∧ Stand p l e R s m args below meth c B.U B.locs B.cells B.slots ∧ PostX ⟨T.setVm vm₁, locs, cells, slots⟩ (Value.ref a :: argsL).toArray q B ∧
      Steps p.tables e below (T.setTop g) ((B.U.setTop { g with stack := rest }).pushFrame (.throwing q))) := by
  subst hg
  have hpl : e.platform.magicAccessors = ({} : Platform).magicAccessors := by rw [X.admits.platform]
  obtain ⟨mk, methM, cM, kP, vm₁, hnamed, hmethM, hcodeM, -, hlocalsM, -, hkP, -, hW₁, hstep₁⟩ := Steps.initColdArgs (e := e) X.here hexec X.warmed hpl hown hy1 hy hlink hinst hcode (f := g) rfl hlen hstack hdg
  have X₁ := X.noted hW₁
  rcases hK g.method meth c ⟨T.setVm vm₁, locs, cells, slots⟩ { g with stack := rest } (.invokespecial index) mk (Value.ref a :: argsL).toArray X₁ rfl hsize hdg hW (X₁.named hnamed) (hpre vm₁ X₁.warmed) with ⟨v, B, X', hpost, hsteps⟩ | ⟨q, B, X', hpost, hsteps⟩
  · exact Or.inl ⟨v, vm₁, B, X₁.warmed, X', hpost, fun target h => hstep₁ _ fun acts => by rw [doInvoke_state]; exact hsteps.trans h⟩
  · exact Or.inr ⟨q, vm₁, B, X₁.warmed, X', hpost, hstep₁ _ fun acts => by rw [doInvoke_state]; exact hsteps⟩
end VXIA
section VXIB
variable {p : Program} {l : Launch} {e : Env} {R : Room} {s : State} {m : MethodId} {args : Array Value} {below : List Frame} {meth : Method} {c : Code} {H : Heap} {locs : List Loc} {cells slots : Nat}
variable {y : MethodName} {bytes cc : ByteArray} {maxL nL mc ms n index : Nat} {ret : Option FieldType} {ws : List Cond} {rm : Room} {Pc : Array Value → State → Prop} {Qc : Array Value → State → Outcome → State → Prop} {XC : String → State → State → Prop} {free : Addr → Prop} {Ts : List Cond} {own C : String} {b : Addr} {As rest : List Value} {g : JFrame}
theorem vx_runI (S : CallFix p m c cc nL s args Ts own) (hM : vx_Met l y ws rm Pc Qc XC mc ms free) (cw : CallB R s args own index y bytes maxL none ws rm mc ms n ∧ y.name = "<init>" ∧ (Cond.instanceMethod y).before args s = true) (hp : PreS s H Pc (.ref b :: As))
    (hg : g.method = m) (hn : As.length = n) (hsize : g.locals.size = nL) (hstack : g.stack = As.reverse ++ .ref b :: rest) (hW : 2 * g.monitorRoom + (rest.map fun v => v.category).sum ≤ 8) (hdg : decode cc g.pc = .ok (.invokespecial index, 3)) (hf : cells + mc ≤ R.cells ∧ slots + ms ≤ R.slots) :
    vx_Run p l e R s m args below meth c H locs cells slots mc ms g rest (Qc (Value.ref b :: As).toArray) XC free := by
  have hK : vx_Back l R p e below s args y 3 8 (PreOf R mc ms Pc) (PostOf Qc mc ms free) (vx_Post XC mc ms free) := vx_callBack cw.1 hM hp.1
  obtain ⟨⟨-, -, -, -, -, -, hcode, -, hy, hlen, hl⟩, hy1, hin⟩ := cw
  obtain ⟨hx, hb, hml, ho, -⟩ := S
  have hPc := hp.2
  intro T hT X
  rcases vx_callI X hx (bytes := bytes) (maxL := maxL) ho hy1 hl hin hcode hy hK hg (hsize.trans hml.symm) (a := b) (argsL := As) (rest := rest) (fun sig h => hn.trans (hlen sig h)) hstack hW (by rw [hb]; exact hdg)
    (fun vm₁ hW₁ => ⟨hf.1, hf.2, hPc (T.setVm vm₁) hT hW₁⟩) with ⟨v, vm₁, ⟨U', l2, c2, s2⟩, hW₁, X', ⟨g', mk, t, L, e1, e2, hq, h1, hL, h2, h3⟩, st⟩ | ⟨q, vm₁, ⟨U', l2, c2, s2⟩, hW₁, X', ⟨g', mk, t, L, E, ce, e1, e2, hq, hce, hcv, hcl, h1, hL, h2, h3⟩, st⟩
  · dsimp only [Pt.U, Pt.locs, Pt.cells, Pt.slots] at X' e1 e2 h1 h2 h3 st
    subst h1; subst h2; subst h3
    exact Or.inl ⟨v, (T.setVm vm₁).calling g' mk (Value.ref b :: As).toArray, t, U', L, hT, X', hL, e1, e2, hq, st⟩
  · dsimp only [Pt.U, Pt.locs, Pt.cells, Pt.slots] at X' e1 e2 h1 h2 h3 st hcl
    subst h1; subst h2; subst h3
    exact Or.inr ⟨q, (T.setVm vm₁).calling g' mk (Value.ref b :: As).toArray, t, U', L, E, ce, hT, X', hL, e1, e2, hq, hce, hcv, vx_cls hW₁ hcl, st⟩
end VXIB
section
variable {p : Program} {l : Launch} {e : Env} {R : Room} {s : State} {m : MethodId} {args : Array Value} {below : List Frame} {meth : Method} {c : Code} {H : Heap} {locs : List Loc} {cells slots : Nat}
variable {T : State}
theorem vx_callVN (X : Stand p l e R s m args below meth c T locs cells slots) (hexec : p.tables.exec = Jvm.exec) {own C : String} {index : Nat} {host : String} {y : MethodName} {bytes : ByteArray} {maxL : Nat} {ret : Option FieldType}
    (hown : s.vm.findClass own = some m.cls) (hlink : (Cond.methodLinkNest own index y host).before args s = true) (hinst : (Cond.instanceMethod y).before args s = true) (hsel : (Cond.selects C y y).before args s = true)
    (hcode : (Cond.code y bytes maxL ret).before args s = true) (hy : y.cls ≠ "java/lang/invoke/MethodHandle" ∧ y.cls ≠ "java/lang/invoke/VarHandle")
    {W : Nat} {Pre : Pt → Array Value → Prop} {Post : Pt → Array Value → Option Value → Pt → Prop} {PostX : Pt → Array Value → Addr → Pt → Prop} (hK : vx_Back l R p e below s args y 3 W Pre Post PostX)
    {b : Addr} {cellB : Cell} (hcell : T.heap[b]? = some cellB) (hobj : cellB.vm.isStatics = false) (hcls : s.vm.findClass C = some cellB.cls)
    {g : JFrame} (hg : g.method = m) (hsize : g.locals.size = c.maxLocals) {argsL rest : List Value} (hlen : ∀ sig, parseMethodDescriptor y.desc = some sig → argsL.length = sig.parameters.length)
    (hstack : g.stack = argsL.reverse ++ .ref b :: rest) (hW : 2 * g.monitorRoom + (rest.map fun v => v.category).sum ≤ W) (hdg : decode c.code g.pc = .ok (.invokevirtual index, 3))
    (hpre : ∀ vm₁, s.WarmedH vm₁ → Pre ⟨T.setVm vm₁, locs, cells, slots⟩ (Value.ref b :: argsL).toArray) :
    (∃ (v : Option Value) (vm₁ : Vm) (B : Pt), s.WarmedH vm₁ ∧ Stand p l e R s m args below meth c B.U B.locs B.cells B.slots ∧ Post ⟨T.setVm vm₁, locs, cells, slots⟩ (Value.ref b :: argsL).toArray v B ∧
      ∀ target, Steps p.tables e below (B.U.setTop { g with pc := g.pc + 3, stack := v.toList ++ rest }) target → Steps p.tables e below (T.setTop g) target) ∨
    (∃ (q : Addr) (vm₁ : Vm) (B : Pt), s.WarmedH vm₁ ∧ Stand p l e R s m args below meth c B.U B.locs B.cells B.slots ∧ PostX ⟨T.setVm vm₁, locs, cells, slots⟩ (Value.ref b :: argsL).toArray q B ∧
      Steps p.tables e below (T.setTop g) ((B.U.setTop { g with stack := rest }).pushFrame (.throwing q))) := by
  obtain ⟨mk, methM, hnamed, hmethM, hstM, habM⟩ := Cond.instanceMethod_spec hinst
  obtain ⟨methM', cM, hmethM', -, -, -, -, -, -, hsigM⟩ := Cond.code_spec hnamed hcode
  cases hmethM.symm.trans hmethM'
  obtain ⟨c2, r2, m2, q1, q2, q3, q4, kP, hkP, hkPi⟩ := Cond.selects_spec hsel
  cases hcls.symm.trans q1
  cases (State.methodFound?_of_named hnamed hy).symm.trans q2
  cases hnamed.symm.trans q3
  have hselP : selectMethod e.platform s.vm cellB.cls mk = .method mk := by rw [Launch.admits_selectMethod X.admits]; exact q4
  obtain ⟨vm₁, X₁, hstep₁⟩ := X.invokevirtualNest hexec hown hlink hnamed hmethM hstM hkP hkPi hy (a := b) (cell := cellB) hcell
    (fun z h => by rw [h] at hobj; cases hobj) hselP hmethM habM hkP hkPi (g := g) hg (argsL := argsL) (rest := rest) (hlen _ hsigM) hstack hdg
  rcases hK m meth c ⟨T.setVm vm₁, locs, cells, slots⟩ { g with stack := rest } (.invokevirtual index) mk (Value.ref b :: argsL).toArray X₁ hg hsize hdg hW (X₁.named hnamed) (hpre vm₁ X₁.warmed) with ⟨v, B, X', hpost, hsteps⟩ | ⟨q, B, X', hpost, hsteps⟩
  · exact Or.inl ⟨v, vm₁, B, X₁.warmed, X', hpost, fun target h => hstep₁ _ fun acts => by rw [doInvoke_state]; exact hsteps.trans h⟩
  · exact Or.inr ⟨q, vm₁, B, X₁.warmed, X', hpost, hstep₁ _ fun acts => by rw [doInvoke_state]; exact hsteps⟩
theorem vx_callSN (X : Stand p l e R s m args below meth c T locs cells slots) (hexec : p.tables.exec = Jvm.exec) {own : String} {index : Nat} {host : String} {y : MethodName} {bytes : ByteArray} {maxL : Nat} {ret : Option FieldType}
    (hown : s.vm.findClass own = some m.cls) (hlink : (Cond.methodLinkNest own index y host).before args s = true) (hstat : (Cond.static y).before args s = true) (hinit : (Cond.initialized y.cls).before args s = true)
    (hcode : (Cond.code y bytes maxL ret).before args s = true) (hy : y.cls ≠ "java/lang/invoke/MethodHandle" ∧ y.cls ≠ "java/lang/invoke/VarHandle")
    {W : Nat} {Pre : Pt → Array Value → Prop} {Post : Pt → Array Value → Option Value → Pt → Prop} {PostX : Pt → Array Value → Addr → Pt → Prop} (hK : vx_Back l R p e below s args y 3 W Pre Post PostX)
    {g : JFrame} (hg : g.method = m) (hsize : g.locals.size = c.maxLocals) {argsL rest : List Value} (hlen : ∀ sig, parseMethodDescriptor y.desc = some sig → argsL.length = sig.parameters.length)
    (hstack : g.stack = argsL.reverse ++ rest) (hW : 2 * g.monitorRoom + (rest.map fun v => v.category).sum ≤ W) (hdg : decode c.code g.pc = .ok (.invokestatic index, 3))
    (hpre : ∀ vm₁, s.WarmedH vm₁ → Pre ⟨T.setVm vm₁, locs, cells, slots⟩ argsL.toArray) :
    (∃ (v : Option Value) (vm₁ : Vm) (B : Pt), s.WarmedH vm₁ ∧ Stand p l e R s m args below meth c B.U B.locs B.cells B.slots ∧ Post ⟨T.setVm vm₁, locs, cells, slots⟩ argsL.toArray v B ∧
      ∀ target, Steps p.tables e below (B.U.setTop { g with pc := g.pc + 3, stack := v.toList ++ rest }) target → Steps p.tables e below (T.setTop g) target) ∨
    (∃ (q : Addr) (vm₁ : Vm) (B : Pt), s.WarmedH vm₁ ∧ Stand p l e R s m args below meth c B.U B.locs B.cells B.slots ∧ PostX ⟨T.setVm vm₁, locs, cells, slots⟩ argsL.toArray q B ∧
      Steps p.tables e below (T.setTop g) ((B.U.setTop { g with stack := rest }).pushFrame (.throwing q))) := by
  obtain ⟨mk, hnamed⟩ := Cond.code_named hcode
  obtain ⟨methM, cM, hmethM, -, -, -, -, -, -, hsigM⟩ := Cond.code_spec hnamed hcode
  have hstatic : methM.isStatic = true := Cond.static_spec hnamed hmethM hstat
  obtain ⟨kP, hkP, -⟩ := className_of_methodNamed hnamed
  have hinitP : kP.init = .initialized := Cond.initialized_spec (findClass_of_methodNamed hnamed) hkP hinit
  obtain ⟨vm₁, X₁, hstep₁⟩ := X.invokestaticNest hexec hown hlink hnamed hmethM hstatic hkP hinitP hy (g := g) hg (argsL := argsL) (rest := rest) (hlen _ hsigM) hstack hdg
  rcases hK m meth c ⟨T.setVm vm₁, locs, cells, slots⟩ { g with stack := rest } (.invokestatic index) mk argsL.toArray X₁ hg hsize hdg hW (X₁.named hnamed) (hpre vm₁ X₁.warmed) with ⟨v, B, X', hpost, hsteps⟩ | ⟨q, B, X', hpost, hsteps⟩
  · exact Or.inl ⟨v, vm₁, B, X₁.warmed, X', hpost, fun target h => hstep₁ _ fun acts => by rw [doInvoke_state]; exact hsteps.trans h⟩
  · exact Or.inr ⟨q, vm₁, B, X₁.warmed, X', hpost, hstep₁ _ fun acts => by rw [doInvoke_state]; exact hsteps⟩
theorem vx_runVN {y : MethodName} {bytes cc : ByteArray} {maxL nL mc ms n index : Nat} {ret : Option FieldType} {ws : List Cond} {rm : Room} {Pc : Array Value → State → Prop} {Qc : Array Value → State → Outcome → State → Prop} {XC : String → State → State → Prop} {free : Addr → Prop} {Ts : List Cond} {own C host : String} {b : Addr} {As rest : List Value} {g : JFrame}
    (S : CallFix p m c cc nL s args Ts own) (hM : vx_Met l y ws rm Pc Qc XC mc ms free) (cw : va_CN R s args own index y host bytes maxL ret ws rm mc ms n ∧ (Cond.instanceMethod y).before args s = true ∧ (Cond.selects C y y).before args s = true) (hp : PreV s H C b Pc As)
    (hg : g.method = m) (hn : As.length = n) (hsize : g.locals.size = nL) (hstack : g.stack = As.reverse ++ .ref b :: rest) (hW : 2 * g.monitorRoom + (rest.map fun v => v.category).sum ≤ 8) (hdg : decode cc g.pc = .ok (.invokevirtual index, 3)) (hf : cells + mc ≤ R.cells ∧ slots + ms ≤ R.slots) :
    vx_Run p l e R s m args below meth c H locs cells slots mc ms g rest (Qc (Value.ref b :: As).toArray) XC free := by
  obtain ⟨⟨⟨hrc, hrs, hfr, hlo, hws, hcw⟩, hcode, hini, hy, hlen, hl⟩, hx1, hx2⟩ := cw
  have hK : vx_Back l R p e below s args y 3 8 (PreOf R mc ms Pc) (PostOf Qc mc ms free) (vx_Post XC mc ms free) := vx_back (bytes := bytes) (maxL := maxL) (ret := ret) hM hp.1 hrc hrs hfr hlo hws hcw (fun a' U hW => word_at hW (Or.inl (by first | rfl | simp [Cond.onTables, Cond.keeps, Cond.steady])) hini)
  obtain ⟨hx, hb, hml, ho, -⟩ := S
  obtain ⟨-, ⟨cellB, hcB, hoB, hclB⟩, hPc⟩ := hp
  intro T hT X
  rcases vx_callVN X hx (C := C) (bytes := bytes) (maxL := maxL) (ret := ret) ho hl hx1 hx2 hcode hy hK (by rw [hT]; exact hcB) hoB hclB hg (hsize.trans hml.symm) (argsL := As) (rest := rest) (fun sig h => hn.trans (hlen sig h)) hstack hW (by rw [hb]; exact hdg)
    (fun vm₁ hW₁ => ⟨hf.1, hf.2, hPc (T.setVm vm₁) hT hW₁⟩) with ⟨v, vm₁, ⟨U', l2, c2, s2⟩, hW₁, X', ⟨g', mk, t, L, e1, e2, hq, h1, hL, h2, h3⟩, st⟩ | ⟨q, vm₁, ⟨U', l2, c2, s2⟩, hW₁, X', ⟨g', mk, t, L, E, ce, e1, e2, hq, hce, hcv, hcl, h1, hL, h2, h3⟩, st⟩
  · dsimp only [Pt.U, Pt.locs, Pt.cells, Pt.slots] at X' e1 e2 h1 h2 h3 st
    subst h1; subst h2; subst h3
    exact Or.inl ⟨v, (T.setVm vm₁).calling g' mk (Value.ref b :: As).toArray, t, U', L, hT, X', hL, e1, e2, hq, st⟩
  · dsimp only [Pt.U, Pt.locs, Pt.cells, Pt.slots] at X' e1 e2 h1 h2 h3 st hcl
    subst h1; subst h2; subst h3
    exact Or.inr ⟨q, (T.setVm vm₁).calling g' mk (Value.ref b :: As).toArray, t, U', L, E, ce, hT, X', hL, e1, e2, hq, hce, hcv, vx_cls hW₁ hcl, st⟩
theorem vx_runSN {y : MethodName} {bytes cc : ByteArray} {maxL nL mc ms n index : Nat} {ret : Option FieldType} {ws : List Cond} {rm : Room} {Pc : Array Value → State → Prop} {Qc : Array Value → State → Outcome → State → Prop} {XC : String → State → State → Prop} {free : Addr → Prop} {Ts : List Cond} {own host : String} {As rest : List Value} {g : JFrame}
    (S : CallFix p m c cc nL s args Ts own) (hM : vx_Met l y ws rm Pc Qc XC mc ms free) (cw : va_CN R s args own index y host bytes maxL ret ws rm mc ms n ∧ (Cond.static y).before args s = true ∧ True) (hp : PreS s H Pc As)
    (hg : g.method = m) (hn : As.length = n) (hsize : g.locals.size = nL) (hstack : g.stack = As.reverse ++ rest) (hW : 2 * g.monitorRoom + (rest.map fun v => v.category).sum ≤ 8) (hdg : decode cc g.pc = .ok (.invokestatic index, 3)) (hf : cells + mc ≤ R.cells ∧ slots + ms ≤ R.slots) :
    vx_Run p l e R s m args below meth c H locs cells slots mc ms g rest (Qc As.toArray) XC free := by
  obtain ⟨⟨⟨hrc, hrs, hfr, hlo, hws, hcw⟩, hcode, hini, hy, hlen, hl⟩, hx1, hx2⟩ := cw
  have hK : vx_Back l R p e below s args y 3 8 (PreOf R mc ms Pc) (PostOf Qc mc ms free) (vx_Post XC mc ms free) := vx_back (bytes := bytes) (maxL := maxL) (ret := ret) hM hp.1 hrc hrs hfr hlo hws hcw (fun a' U hW => word_at hW (Or.inl (by first | rfl | simp [Cond.onTables, Cond.keeps, Cond.steady])) hini)
  obtain ⟨hx, hb, hml, ho, -⟩ := S
  have hPc := hp.2
  intro T hT X
  rcases vx_callSN X hx (bytes := bytes) (maxL := maxL) (ret := ret) ho hl hx1 hini hcode hy hK hg (hsize.trans hml.symm) (argsL := As) (rest := rest) (fun sig h => hn.trans (hlen sig h)) hstack hW (by rw [hb]; exact hdg)
    (fun vm₁ hW₁ => ⟨hf.1, hf.2, hPc (T.setVm vm₁) hT hW₁⟩) with ⟨v, vm₁, ⟨U', l2, c2, s2⟩, hW₁, X', ⟨g', mk, t, L, e1, e2, hq, h1, hL, h2, h3⟩, st⟩ | ⟨q, vm₁, ⟨U', l2, c2, s2⟩, hW₁, X', ⟨g', mk, t, L, E, ce, e1, e2, hq, hce, hcv, hcl, h1, hL, h2, h3⟩, st⟩
  · dsimp only [Pt.U, Pt.locs, Pt.cells, Pt.slots] at X' e1 e2 h1 h2 h3 st
    subst h1; subst h2; subst h3
    exact Or.inl ⟨v, (T.setVm vm₁).calling g' mk As.toArray, t, U', L, hT, X', hL, e1, e2, hq, st⟩
  · dsimp only [Pt.U, Pt.locs, Pt.cells, Pt.slots] at X' e1 e2 h1 h2 h3 st hcl
    subst h1; subst h2; subst h3
    exact Or.inr ⟨q, (T.setVm vm₁).calling g' mk As.toArray, t, U', L, E, ce, hT, X', hL, e1, e2, hq, hce, hcv, vx_cls hW₁ hcl, st⟩
end
end
section
/-! names of classes, fields, methods (of the printed names, the word lists and decode rows left out) -/
def RX0 : String := "Marginalia$Anchor"
def TX0 : u_T := fun k => match k with
  | 0 => ("Marginalia$Anchor", "from", "I", false)
  | _ => ("Marginalia$Anchor", "to", "I", false)
def tyX0 : Nat → FieldType := fun k => match k with
  | 0 => .int
  | _ => .int
theorem nmX0 : ∀ a, a < 2 → ∀ b, b < 2 → a ≠ b → (TX0 a).2.1 ≠ (TX0 b).2.1 := by decide +kernel
theorem tyX0_ok : ∀ k, k < 2 → parseFieldDescriptor (TX0 k).2.2.1 = some (tyX0 k) := by decide +kernel
abbrev cX0_init : ByteArray := prog_2_method_1_code
def yX0_init : MethodName := ⟨RX0, "<init>", "(II)V"⟩
abbrev cX0_lay : ByteArray := prog_2_method_2_code
def yX0_lay : MethodName := ⟨RX0, "lay", "(II)V"⟩
abbrev cX0_size : ByteArray := prog_2_method_3_code
def yX0_size : MethodName := ⟨RX0, "size", "()I"⟩
abbrev cX0_isLost : ByteArray := prog_2_method_4_code
def yX0_isLost : MethodName := ⟨RX0, "isLost", "()Z"⟩
abbrev cX0_covers : ByteArray := prog_2_method_5_code
def yX0_covers : MethodName := ⟨RX0, "covers", "(I)Z"⟩
abbrev cX0_isAheadOf : ByteArray := prog_2_method_6_code
def yX0_isAheadOf : MethodName := ⟨RX0, "isAheadOf", "(LMarginalia$Anchor;)Z"⟩
abbrev cX0_wouldBeLost : ByteArray := prog_2_method_7_code
def yX0_wouldBeLost : MethodName := ⟨RX0, "wouldBeLost", "(II)Z"⟩
abbrev cX0_moveAsPut : ByteArray := prog_2_method_8_code
def yX0_moveAsPut : MethodName := ⟨RX0, "moveAsPut", "(II)V"⟩
abbrev cX0_moveAsCut : ByteArray := prog_2_method_9_code
def yX0_moveAsCut : MethodName := ⟨RX0, "moveAsCut", "(II)V"⟩
abbrev cX0_cutAheadOf : ByteArray := prog_2_method_10_code
def yX0_cutAheadOf : MethodName := ⟨RX0, "cutAheadOf", "(III)I"⟩
def RX1 : String := "Marginalia$Export"
def TX1 : u_T := fun k => match k with
  | 0 => ("Marginalia$Export", "columns", "[[I", true)
  | _ => ("Marginalia$Export", "size", "I", false)
def tyX1 : Nat → FieldType := fun k => match k with
  | 0 => .array (.array .int)
  | _ => .int
theorem nmX1 : ∀ a, a < 2 → ∀ b, b < 2 → a ≠ b → (TX1 a).2.1 ≠ (TX1 b).2.1 := by decide +kernel
theorem tyX1_ok : ∀ k, k < 2 → parseFieldDescriptor (TX1 k).2.2.1 = some (tyX1 k) := by decide +kernel
abbrev cX1_init : ByteArray := prog_3_method_1_code
def yX1_init : MethodName := ⟨RX1, "<init>", "()V"⟩
abbrev cX1_addOrder : ByteArray := prog_3_method_2_code
def yX1_addOrder : MethodName := ⟨RX1, "addOrder", "(LMarginalia$Note;)V"⟩
def RX2 : String := "Marginalia$Note"
def TX2 : u_T := fun k => match k with
  | 0 => ("Marginalia$Note", "number", "I", true)
  | 1 => ("Marginalia$Note", "author", "I", true)
  | 2 => ("Marginalia$Note", "content", "I", true)
  | 3 => ("Marginalia$Note", "depth", "I", true)
  | 4 => ("Marginalia$Note", "parent", "LMarginalia$Note;", true)
  | 5 => ("Marginalia$Note", "strand", "LMarginalia$Strand;", true)
  | 6 => ("Marginalia$Note", "nextInOrder", "LMarginalia$Note;", false)
  | 7 => ("Marginalia$Note", "repliesNotGone", "I", false)
  | 8 => ("Marginalia$Note", "isEmpty", "Z", false)
  | _ => ("Marginalia$Note", "isGone", "Z", false)
def tyX2 : Nat → FieldType := fun k => match k with
  | 0 => .int
  | 1 => .int
  | 2 => .int
  | 3 => .int
  | 4 => .object "Marginalia$Note"
  | 5 => .object "Marginalia$Strand"
  | 6 => .object "Marginalia$Note"
  | 7 => .int
  | 8 => .boolean
  | _ => .boolean
theorem nmX2 : ∀ a, a < 10 → ∀ b, b < 10 → a ≠ b → (TX2 a).2.1 ≠ (TX2 b).2.1 := by decide +kernel
theorem tyX2_ok : ∀ k, k < 10 → parseFieldDescriptor (TX2 k).2.2.1 = some (tyX2 k) := by decide +kernel
abbrev cX2_init : ByteArray := prog_4_method_1_code
def yX2_init : MethodName := ⟨RX2, "<init>", "(IIILMarginalia$Note;LMarginalia$Strand;)V"⟩
abbrev cX2_isHead : ByteArray := prog_4_method_2_code
def yX2_isHead : MethodName := ⟨RX2, "isHead", "()Z"⟩
abbrev cX2_isHeadNotGone : ByteArray := prog_4_method_3_code
def yX2_isHeadNotGone : MethodName := ⟨RX2, "isHeadNotGone", "()Z"⟩
abbrev cX2_contentShown : ByteArray := prog_4_method_4_code
def yX2_contentShown : MethodName := ⟨RX2, "contentShown", "()I"⟩
abbrev cX2_addReply : ByteArray := prog_4_method_5_code
def yX2_addReply : MethodName := ⟨RX2, "addReply", "(LMarginalia$Note;)V"⟩
abbrev cX2_emptyAndDrop : ByteArray := prog_4_method_6_code
def yX2_emptyAndDrop : MethodName := ⟨RX2, "emptyAndDrop", "()I"⟩
abbrev cX2_fact : ByteArray := prog_4_method_7_code
def yX2_fact : MethodName := ⟨RX2, "fact", "(I)I"⟩
def RX3 : String := "Marginalia$Strand"
def TX3 : u_T := fun k => match k with
  | 0 => ("Marginalia$Strand", "headNumber", "I", true)
  | 1 => ("Marginalia$Strand", "author", "I", true)
  | 2 => ("Marginalia$Strand", "view", "I", true)
  | 3 => ("Marginalia$Strand", "anchor", "LMarginalia$Anchor;", true)
  | 4 => ("Marginalia$Strand", "quoted", "[I", true)
  | 5 => ("Marginalia$Strand", "isSettled", "Z", false)
  | 6 => ("Marginalia$Strand", "proposedMany", "I", false)
  | _ => ("Marginalia$Strand", "proposedSign", "I", false)
def tyX3 : Nat → FieldType := fun k => match k with
  | 0 => .int
  | 1 => .int
  | 2 => .int
  | 3 => .object "Marginalia$Anchor"
  | 4 => .array .int
  | 5 => .boolean
  | 6 => .int
  | _ => .int
theorem nmX3 : ∀ a, a < 8 → ∀ b, b < 8 → a ≠ b → (TX3 a).2.1 ≠ (TX3 b).2.1 := by decide +kernel
theorem tyX3_ok : ∀ k, k < 8 → parseFieldDescriptor (TX3 k).2.2.1 = some (tyX3 k) := by decide +kernel
abbrev cX3_init : ByteArray := prog_5_method_1_code
def yX3_init : MethodName := ⟨RX3, "<init>", "(IIILMarginalia$Anchor;[I)V"⟩
abbrev cX3_isSeenBy : ByteArray := prog_5_method_2_code
def yX3_isSeenBy : MethodName := ⟨RX3, "isSeenBy", "(II)Z"⟩
abbrev cX3_isCountedAs : ByteArray := prog_5_method_3_code
def yX3_isCountedAs : MethodName := ⟨RX3, "isCountedAs", "(I)Z"⟩
def RX4 : String := "Marginalia$Text"
def TX4 : u_T := fun k => match k with
  | 0 => ("Marginalia$Text", "namesIn", "[[I", true)
  | 1 => ("Marginalia$Text", "sizeIn", "[I", true)
  | 2 => ("Marginalia$Text", "signOfName", "[I", true)
  | 3 => ("Marginalia$Text", "nameCount", "I", false)
  | _ => ("Marginalia$Text", "edits", "I", false)
def tyX4 : Nat → FieldType := fun k => match k with
  | 0 => .array (.array .int)
  | 1 => .array .int
  | 2 => .array .int
  | 3 => .int
  | _ => .int
theorem nmX4 : ∀ a, a < 5 → ∀ b, b < 5 → a ≠ b → (TX4 a).2.1 ≠ (TX4 b).2.1 := by decide +kernel
theorem tyX4_ok : ∀ k, k < 5 → parseFieldDescriptor (TX4 k).2.2.1 = some (tyX4 k) := by decide +kernel
abbrev cX4_init : ByteArray := prog_6_method_1_code
def yX4_init : MethodName := ⟨RX4, "<init>", "()V"⟩
abbrev cX4_size : ByteArray := prog_6_method_2_code
def yX4_size : MethodName := ⟨RX4, "size", "()I"⟩
abbrev cX4_hasRoomFor : ByteArray := prog_6_method_3_code
def yX4_hasRoomFor : MethodName := ⟨RX4, "hasRoomFor", "(II)Z"⟩
abbrev cX4_hasVersion : ByteArray := prog_6_method_4_code
def yX4_hasVersion : MethodName := ⟨RX4, "hasVersion", "(I)Z"⟩
abbrev cX4_hasSignIn : ByteArray := prog_6_method_5_code
def yX4_hasSignIn : MethodName := ⟨RX4, "hasSignIn", "(II)Z"⟩
abbrev cX4_signIn : ByteArray := prog_6_method_6_code
def yX4_signIn : MethodName := ⟨RX4, "signIn", "(II)I"⟩
abbrev cX4_placeNow : ByteArray := prog_6_method_7_code
def yX4_placeNow : MethodName := ⟨RX4, "placeNow", "(II)I"⟩
abbrev cX4_hasAt : ByteArray := prog_6_method_8_code
def yX4_hasAt : MethodName := ⟨RX4, "hasAt", "(I[I)Z"⟩
abbrev cX4_edit : ByteArray := prog_6_method_9_code
def yX4_edit : MethodName := ⟨RX4, "edit", "(IIII)V"⟩
def RX5 : String := "Marginalia"
def TX5 : u_T := fun k => match k with
  | 0 => ("Marginalia", "rights", "[I", true)
  | 1 => ("Marginalia", "text", "LMarginalia$Text;", true)
  | 2 => ("Marginalia", "notes", "[LMarginalia$Note;", true)
  | 3 => ("Marginalia", "chosenHeads", "[LMarginalia$Note;", true)
  | 4 => ("Marginalia", "kept", "LMarginalia$Export;", true)
  | 5 => ("Marginalia", "userCount", "I", false)
  | _ => ("Marginalia", "noteCount", "I", false)
def tyX5 : Nat → FieldType := fun k => match k with
  | 0 => .array .int
  | 1 => .object "Marginalia$Text"
  | 2 => .array (.object "Marginalia$Note")
  | 3 => .array (.object "Marginalia$Note")
  | 4 => .object "Marginalia$Export"
  | 5 => .int
  | _ => .int
theorem nmX5 : ∀ a, a < 7 → ∀ b, b < 7 → a ≠ b → (TX5 a).2.1 ≠ (TX5 b).2.1 := by decide +kernel
theorem tyX5_ok : ∀ k, k < 7 → parseFieldDescriptor (TX5 k).2.2.1 = some (tyX5 k) := by decide +kernel
abbrev cX5_init : ByteArray := prog_1_method_1_code
def yX5_init : MethodName := ⟨RX5, "<init>", "()V"⟩
abbrev cX5_user : ByteArray := prog_1_method_2_code
def yX5_user : MethodName := ⟨RX5, "user", "(I)I"⟩
abbrev cX5_setRight : ByteArray := prog_1_method_3_code
def yX5_setRight : MethodName := ⟨RX5, "setRight", "(III)I"⟩
abbrev cX5_insert : ByteArray := prog_1_method_4_code
def yX5_insert : MethodName := ⟨RX5, "insert", "(IIII)I"⟩
abbrev cX5_delete : ByteArray := prog_1_method_5_code
def yX5_delete : MethodName := ⟨RX5, "delete", "(III)I"⟩
abbrev cX5_length : ByteArray := prog_1_method_6_code
def yX5_length : MethodName := ⟨RX5, "length", "()I"⟩
abbrev cX5_sign : ByteArray := prog_1_method_7_code
def yX5_sign : MethodName := ⟨RX5, "sign", "(II)I"⟩
abbrev cX5_now : ByteArray := prog_1_method_8_code
def yX5_now : MethodName := ⟨RX5, "now", "(II)I"⟩
abbrev cX5_version : ByteArray := prog_1_method_9_code
def yX5_version : MethodName := ⟨RX5, "version", "()I"⟩
abbrev cX5_note : ByteArray := prog_1_method_10_code
def yX5_note : MethodName := ⟨RX5, "note", "(IIIII)I"⟩
abbrev cX5_reply : ByteArray := prog_1_method_11_code
def yX5_reply : MethodName := ⟨RX5, "reply", "(III)I"⟩
abbrev cX5_settle : ByteArray := prog_1_method_12_code
def yX5_settle : MethodName := ⟨RX5, "settle", "(IIZ)Z"⟩
abbrev cX5_remove : ByteArray := prog_1_method_13_code
def yX5_remove : MethodName := ⟨RX5, "remove", "(II)I"⟩
abbrev cX5_propose : ByteArray := prog_1_method_14_code
def yX5_propose : MethodName := ⟨RX5, "propose", "(IIII)I"⟩
abbrev cX5_take : ByteArray := prog_1_method_15_code
def yX5_take : MethodName := ⟨RX5, "take", "(II)I"⟩
abbrev cX5_heal : ByteArray := prog_1_method_16_code
def yX5_heal : MethodName := ⟨RX5, "heal", "()I"⟩
abbrev cX5_many : ByteArray := prog_1_method_17_code
def yX5_many : MethodName := ⟨RX5, "many", "(I)I"⟩
abbrev cX5_right : ByteArray := prog_1_method_18_code
def yX5_right : MethodName := ⟨RX5, "right", "(I)I"⟩
abbrev cX5_ofNote : ByteArray := prog_1_method_19_code
def yX5_ofNote : MethodName := ⟨RX5, "ofNote", "(II)I"⟩
abbrev cX5_quote : ByteArray := prog_1_method_20_code
def yX5_quote : MethodName := ⟨RX5, "quote", "(II)I"⟩
abbrev cX5_sees : ByteArray := prog_1_method_21_code
def yX5_sees : MethodName := ⟨RX5, "sees", "(II)Z"⟩
abbrev cX5_thread : ByteArray := prog_1_method_22_code
def yX5_thread : MethodName := ⟨RX5, "thread", "(II)I"⟩
abbrev cX5_over : ByteArray := prog_1_method_23_code
def yX5_over : MethodName := ⟨RX5, "over", "(II)I"⟩
abbrev cX5_export : ByteArray := prog_1_method_24_code
def yX5_export : MethodName := ⟨RX5, "export", "(IZ)I"⟩
abbrev cX5_exported : ByteArray := prog_1_method_25_code
def yX5_exported : MethodName := ⟨RX5, "exported", "(II)I"⟩
abbrev cX5_meanThread : ByteArray := prog_1_method_26_code
def yX5_meanThread : MethodName := ⟨RX5, "meanThread", "()D"⟩
abbrev cX5_lostBy : ByteArray := prog_1_method_27_code
def yX5_lostBy : MethodName := ⟨RX5, "lostBy", "(II)I"⟩
abbrev cX5_wouldHeal : ByteArray := prog_1_method_28_code
def yX5_wouldHeal : MethodName := ⟨RX5, "wouldHeal", "(I)I"⟩
abbrev cX5_wouldSee : ByteArray := prog_1_method_29_code
def yX5_wouldSee : MethodName := ⟨RX5, "wouldSee", "(II)I"⟩
abbrev cX5_digest : ByteArray := prog_1_method_30_code
def yX5_digest : MethodName := ⟨RX5, "digest", "()J"⟩
abbrev cX5_requireUser : ByteArray := prog_1_method_31_code
def yX5_requireUser : MethodName := ⟨RX5, "requireUser", "(I)V"⟩
abbrev cX5_requireSign : ByteArray := prog_1_method_32_code
def yX5_requireSign : MethodName := ⟨RX5, "requireSign", "(I)V"⟩
abbrev cX5_requireNote : ByteArray := prog_1_method_33_code
def yX5_requireNote : MethodName := ⟨RX5, "requireNote", "(I)LMarginalia$Note;"⟩
abbrev cX5_requireIndex : ByteArray := prog_1_method_34_code
def yX5_requireIndex : MethodName := ⟨RX5, "requireIndex", "(Z)V"⟩
abbrev cX5_requireArgument : ByteArray := prog_1_method_35_code
def yX5_requireArgument : MethodName := ⟨RX5, "requireArgument", "(Z)V"⟩
abbrev cX5_requireState : ByteArray := prog_1_method_36_code
def yX5_requireState : MethodName := ⟨RX5, "requireState", "(Z)V"⟩
abbrev cX5_isWithin : ByteArray := prog_1_method_37_code
def yX5_isWithin : MethodName := ⟨RX5, "isWithin", "(III)Z"⟩
abbrev cX5_isRight : ByteArray := prog_1_method_38_code
def yX5_isRight : MethodName := ⟨RX5, "isRight", "(I)Z"⟩
abbrev cX5_isContent : ByteArray := prog_1_method_39_code
def yX5_isContent : MethodName := ⟨RX5, "isContent", "(I)Z"⟩
abbrev cX5_putSigns : ByteArray := prog_1_method_40_code
def yX5_putSigns : MethodName := ⟨RX5, "putSigns", "(III)V"⟩
abbrev cX5_cutSigns : ByteArray := prog_1_method_41_code
def yX5_cutSigns : MethodName := ⟨RX5, "cutSigns", "(II)V"⟩
abbrev cX5_canTake : ByteArray := prog_1_method_42_code
def yX5_canTake : MethodName := ⟨RX5, "canTake", "(LMarginalia$Strand;)Z"⟩
abbrev cX5_putProposal : ByteArray := prog_1_method_43_code
def yX5_putProposal : MethodName := ⟨RX5, "putProposal", "(LMarginalia$Strand;)V"⟩
abbrev cX5_quoteOf : ByteArray := prog_1_method_44_code
def yX5_quoteOf : MethodName := ⟨RX5, "quoteOf", "(II)[I"⟩
abbrev cX5_healAnchor : ByteArray := prog_1_method_45_code
def yX5_healAnchor : MethodName := ⟨RX5, "healAnchor", "(LMarginalia$Strand;)Z"⟩
abbrev cX5_placeOfQuote : ByteArray := prog_1_method_46_code
def yX5_placeOfQuote : MethodName := ⟨RX5, "placeOfQuote", "(LMarginalia$Strand;)I"⟩
abbrev cX5_keepNote : ByteArray := prog_1_method_47_code
def yX5_keepNote : MethodName := ⟨RX5, "keepNote", "(LMarginalia$Note;)I"⟩
abbrev cX5_headOf : ByteArray := prog_1_method_48_code
def yX5_headOf : MethodName := ⟨RX5, "headOf", "(LMarginalia$Note;)LMarginalia$Note;"⟩
abbrev cX5_isSeen : ByteArray := prog_1_method_49_code
def yX5_isSeen : MethodName := ⟨RX5, "isSeen", "(ILMarginalia$Note;)Z"⟩
abbrev cX5_countNotes : ByteArray := prog_1_method_50_code
def yX5_countNotes : MethodName := ⟨RX5, "countNotes", "()I"⟩
abbrev cX5_countStrands : ByteArray := prog_1_method_51_code
def yX5_countStrands : MethodName := ⟨RX5, "countStrands", "(I)I"⟩
abbrev cX5_chooseHeads : ByteArray := prog_1_method_52_code
def yX5_chooseHeads : MethodName := ⟨RX5, "chooseHeads", "(IZ)I"⟩
abbrev cX5_putAmongChosen : ByteArray := prog_1_method_53_code
def yX5_putAmongChosen : MethodName := ⟨RX5, "putAmongChosen", "(LMarginalia$Note;I)V"⟩
abbrev cX5_mix : ByteArray := prog_1_method_54_code
def yX5_mix : MethodName := ⟨RX5, "mix", "(JJ)J"⟩
abbrev cX5_digestText : ByteArray := prog_1_method_55_code
def yX5_digestText : MethodName := ⟨RX5, "digestText", "(J)J"⟩
abbrev cX5_digestUser : ByteArray := prog_1_method_56_code
def yX5_digestUser : MethodName := ⟨RX5, "digestUser", "(JI)J"⟩
abbrev cX5_digestNote : ByteArray := prog_1_method_57_code
def yX5_digestNote : MethodName := ⟨RX5, "digestNote", "(JI)J"⟩
abbrev cX5_digestExport : ByteArray := prog_1_method_58_code
def yX5_digestExport : MethodName := ⟨RX5, "digestExport", "(J)J"⟩
def RX6 : String := "MarginaliaModel"
def TX6 : u_T := fun k => match k with
  | 0 => ("MarginaliaModel", "thrown", "I", false)
  | 1 => ("MarginaliaModel", "users", "I", false)
  | 2 => ("MarginaliaModel", "right", "[I", true)
  | 3 => ("MarginaliaModel", "ever", "I", false)
  | 4 => ("MarginaliaModel", "signOf", "[I", false)
  | 5 => ("MarginaliaModel", "texts", "[[I", false)
  | 6 => ("MarginaliaModel", "version", "I", false)
  | 7 => ("MarginaliaModel", "notes", "I", false)
  | 8 => ("MarginaliaModel", "author", "[I", true)
  | 9 => ("MarginaliaModel", "content", "[I", true)
  | 10 => ("MarginaliaModel", "parent", "[I", true)
  | 11 => ("MarginaliaModel", "head", "[I", true)
  | 12 => ("MarginaliaModel", "state", "[I", true)
  | 13 => ("MarginaliaModel", "from", "[I", true)
  | 14 => ("MarginaliaModel", "to", "[I", true)
  | 15 => ("MarginaliaModel", "view", "[I", true)
  | 16 => ("MarginaliaModel", "many", "[I", true)
  | 17 => ("MarginaliaModel", "first", "[I", true)
  | 18 => ("MarginaliaModel", "isSettled", "[Z", true)
  | 19 => ("MarginaliaModel", "quotes", "[[I", true)
  | 20 => ("MarginaliaModel", "exported", "[I", false)
  | 21 => ("MarginaliaModel", "ordered", "I", false)
  | _ => ("MarginaliaModel", "order", "[I", true)
def tyX6 : Nat → FieldType := fun k => match k with
  | 0 => .int
  | 1 => .int
  | 2 => .array .int
  | 3 => .int
  | 4 => .array .int
  | 5 => .array (.array .int)
  | 6 => .int
  | 7 => .int
  | 8 => .array .int
  | 9 => .array .int
  | 10 => .array .int
  | 11 => .array .int
  | 12 => .array .int
  | 13 => .array .int
  | 14 => .array .int
  | 15 => .array .int
  | 16 => .array .int
  | 17 => .array .int
  | 18 => .array .boolean
  | 19 => .array (.array .int)
  | 20 => .array .int
  | 21 => .int
  | _ => .array .int
theorem nmX6 : ∀ a, a < 23 → ∀ b, b < 23 → a ≠ b → (TX6 a).2.1 ≠ (TX6 b).2.1 := by decide +kernel
theorem tyX6_ok : ∀ k, k < 23 → parseFieldDescriptor (TX6 k).2.2.1 = some (tyX6 k) := by decide +kernel
abbrev cX6_init : ByteArray := prog_8_method_1_code
def yX6_init : MethodName := ⟨RX6, "<init>", "()V"⟩
abbrev cX6_thrown : ByteArray := prog_8_method_2_code
def yX6_thrown : MethodName := ⟨RX6, "thrown", "()I"⟩
abbrev cX6_no : ByteArray := prog_8_method_3_code
def yX6_no : MethodName := ⟨RX6, "no", "(I)I"⟩
abbrev cX6_isNot : ByteArray := prog_8_method_4_code
def yX6_isNot : MethodName := ⟨RX6, "isNot", "(I)Z"⟩
abbrev cX6_ok : ByteArray := prog_8_method_5_code
def yX6_ok : MethodName := ⟨RX6, "ok", "(I)I"⟩
abbrev cX6_isIn : ByteArray := prog_8_method_6_code
def yX6_isIn : MethodName := ⟨RX6, "isIn", "(III)Z"⟩
abbrev cX6_isUser : ByteArray := prog_8_method_7_code
def yX6_isUser : MethodName := ⟨RX6, "isUser", "(I)Z"⟩
abbrev cX6_isNote : ByteArray := prog_8_method_8_code
def yX6_isNote : MethodName := ⟨RX6, "isNote", "(I)Z"⟩
abbrev cX6_text : ByteArray := prog_8_method_9_code
def yX6_text : MethodName := ⟨RX6, "text", "()[I"⟩
abbrev cX6_user : ByteArray := prog_8_method_10_code
def yX6_user : MethodName := ⟨RX6, "user", "(I)I"⟩
abbrev cX6_setRight : ByteArray := prog_8_method_11_code
def yX6_setRight : MethodName := ⟨RX6, "setRight", "(III)I"⟩
abbrev cX6_put : ByteArray := prog_8_method_12_code
def yX6_put : MethodName := ⟨RX6, "put", "(III)V"⟩
abbrev cX6_cut : ByteArray := prog_8_method_13_code
def yX6_cut : MethodName := ⟨RX6, "cut", "(II)V"⟩
abbrev cX6_insert : ByteArray := prog_8_method_14_code
def yX6_insert : MethodName := ⟨RX6, "insert", "(IIII)I"⟩
abbrev cX6_delete : ByteArray := prog_8_method_15_code
def yX6_delete : MethodName := ⟨RX6, "delete", "(III)I"⟩
abbrev cX6_length : ByteArray := prog_8_method_16_code
def yX6_length : MethodName := ⟨RX6, "length", "()I"⟩
abbrev cX6_sign : ByteArray := prog_8_method_17_code
def yX6_sign : MethodName := ⟨RX6, "sign", "(II)I"⟩
abbrev cX6_now : ByteArray := prog_8_method_18_code
def yX6_now : MethodName := ⟨RX6, "now", "(II)I"⟩
abbrev cX6_version : ByteArray := prog_8_method_19_code
def yX6_version : MethodName := ⟨RX6, "version", "()I"⟩
abbrev cX6_seesBy : ByteArray := prog_8_method_20_code
def yX6_seesBy : MethodName := ⟨RX6, "seesBy", "(III)Z"⟩
abbrev cX6_seesNow : ByteArray := prog_8_method_21_code
def yX6_seesNow : MethodName := ⟨RX6, "seesNow", "(II)Z"⟩
abbrev cX6_may : ByteArray := prog_8_method_22_code
def yX6_may : MethodName := ⟨RX6, "may", "(III)Z"⟩
abbrev cX6_add : ByteArray := prog_8_method_23_code
def yX6_add : MethodName := ⟨RX6, "add", "(III)I"⟩
abbrev cX6_note : ByteArray := prog_8_method_24_code
def yX6_note : MethodName := ⟨RX6, "note", "(IIIII)I"⟩
abbrev cX6_reply : ByteArray := prog_8_method_25_code
def yX6_reply : MethodName := ⟨RX6, "reply", "(III)I"⟩
abbrev cX6_settle : ByteArray := prog_8_method_26_code
def yX6_settle : MethodName := ⟨RX6, "settle", "(IIZ)Z"⟩
abbrev cX6_replies : ByteArray := prog_8_method_27_code
def yX6_replies : MethodName := ⟨RX6, "replies", "(I)I"⟩
abbrev cX6_remove : ByteArray := prog_8_method_28_code
def yX6_remove : MethodName := ⟨RX6, "remove", "(II)I"⟩
abbrev cX6_propose : ByteArray := prog_8_method_29_code
def yX6_propose : MethodName := ⟨RX6, "propose", "(IIII)I"⟩
abbrev cX6_take : ByteArray := prog_8_method_30_code
def yX6_take : MethodName := ⟨RX6, "take", "(II)I"⟩
abbrev cX6_found : ByteArray := prog_8_method_31_code
def yX6_found : MethodName := ⟨RX6, "found", "(I)I"⟩
abbrev cX6_isHead : ByteArray := prog_8_method_32_code
def yX6_isHead : MethodName := ⟨RX6, "isHead", "(I)Z"⟩
abbrev cX6_isLost : ByteArray := prog_8_method_33_code
def yX6_isLost : MethodName := ⟨RX6, "isLost", "(I)Z"⟩
abbrev cX6_heal : ByteArray := prog_8_method_34_code
def yX6_heal : MethodName := ⟨RX6, "heal", "()I"⟩
abbrev cX6_manyNow : ByteArray := prog_8_method_35_code
def yX6_manyNow : MethodName := ⟨RX6, "manyNow", "(I)I"⟩
abbrev cX6_many : ByteArray := prog_8_method_36_code
def yX6_many : MethodName := ⟨RX6, "many", "(I)I"⟩
abbrev cX6_right : ByteArray := prog_8_method_37_code
def yX6_right : MethodName := ⟨RX6, "right", "(I)I"⟩
abbrev cX6_depth : ByteArray := prog_8_method_38_code
def yX6_depth : MethodName := ⟨RX6, "depth", "(I)I"⟩
abbrev cX6_contentOf : ByteArray := prog_8_method_39_code
def yX6_contentOf : MethodName := ⟨RX6, "contentOf", "(I)I"⟩
abbrev cX6_ofNow : ByteArray := prog_8_method_40_code
def yX6_ofNow : MethodName := ⟨RX6, "ofNow", "(II)I"⟩
abbrev cX6_ofNote : ByteArray := prog_8_method_41_code
def yX6_ofNote : MethodName := ⟨RX6, "ofNote", "(II)I"⟩
abbrev cX6_quote : ByteArray := prog_8_method_42_code
def yX6_quote : MethodName := ⟨RX6, "quote", "(II)I"⟩
abbrev cX6_sees : ByteArray := prog_8_method_43_code
def yX6_sees : MethodName := ⟨RX6, "sees", "(II)Z"⟩
abbrev cX6_tellOrder : ByteArray := prog_8_method_44_code
def yX6_tellOrder : MethodName := ⟨RX6, "tellOrder", "(I)V"⟩
abbrev cX6_behind : ByteArray := prog_8_method_45_code
def yX6_behind : MethodName := ⟨RX6, "behind", "(I)I"⟩
abbrev cX6_reply_ : ByteArray := prog_8_method_46_code
def yX6_reply_ : MethodName := ⟨RX6, "reply", "(II)I"⟩
abbrev cX6_thread : ByteArray := prog_8_method_47_code
def yX6_thread : MethodName := ⟨RX6, "thread", "(II)I"⟩
abbrev cX6_overNow : ByteArray := prog_8_method_48_code
def yX6_overNow : MethodName := ⟨RX6, "overNow", "(II)I"⟩
abbrev cX6_over : ByteArray := prog_8_method_49_code
def yX6_over : MethodName := ⟨RX6, "over", "(II)I"⟩
abbrev cX6_isAhead : ByteArray := prog_8_method_50_code
def yX6_isAhead : MethodName := ⟨RX6, "isAhead", "(II)Z"⟩
abbrev cX6_export : ByteArray := prog_8_method_51_code
def yX6_export : MethodName := ⟨RX6, "export", "(IZ)I"⟩
abbrev cX6_exported : ByteArray := prog_8_method_52_code
def yX6_exported : MethodName := ⟨RX6, "exported", "(II)I"⟩
abbrev cX6_meanThread : ByteArray := prog_8_method_53_code
def yX6_meanThread : MethodName := ⟨RX6, "meanThread", "()D"⟩
abbrev cX6_lostBy : ByteArray := prog_8_method_54_code
def yX6_lostBy : MethodName := ⟨RX6, "lostBy", "(II)I"⟩
abbrev cX6_wouldHeal : ByteArray := prog_8_method_55_code
def yX6_wouldHeal : MethodName := ⟨RX6, "wouldHeal", "(I)I"⟩
abbrev cX6_seen : ByteArray := prog_8_method_56_code
def yX6_seen : MethodName := ⟨RX6, "seen", "(II)I"⟩
abbrev cX6_wouldSee : ByteArray := prog_8_method_57_code
def yX6_wouldSee : MethodName := ⟨RX6, "wouldSee", "(II)I"⟩
abbrev cX6_digest : ByteArray := prog_8_method_58_code
def yX6_digest : MethodName := ⟨RX6, "digest", "()J"⟩
def RL : String := "MarginaliaLaw"
abbrev cL_user : ByteArray := method_3_code
def yL_user : MethodName := ⟨RL, "user", "(LMarginalia;I[J)I"⟩
abbrev cL_setRight : ByteArray := method_4_code
def yL_setRight : MethodName := ⟨RL, "setRight", "(LMarginalia;III[J)I"⟩
abbrev cL_insert : ByteArray := method_5_code
def yL_insert : MethodName := ⟨RL, "insert", "(LMarginalia;IIII[J)I"⟩
abbrev cL_delete : ByteArray := method_6_code
def yL_delete : MethodName := ⟨RL, "delete", "(LMarginalia;III[J)I"⟩
abbrev cL_sign : ByteArray := method_7_code
def yL_sign : MethodName := ⟨RL, "sign", "(LMarginalia;II[J)I"⟩
abbrev cL_now : ByteArray := method_8_code
def yL_now : MethodName := ⟨RL, "now", "(LMarginalia;II[J)I"⟩
abbrev cL_note : ByteArray := method_9_code
def yL_note : MethodName := ⟨RL, "note", "(LMarginalia;IIIII[J)I"⟩
abbrev cL_reply : ByteArray := method_10_code
def yL_reply : MethodName := ⟨RL, "reply", "(LMarginalia;III[J)I"⟩
abbrev cL_settle : ByteArray := method_11_code
def yL_settle : MethodName := ⟨RL, "settle", "(LMarginalia;IIZ[J)I"⟩
abbrev cL_remove : ByteArray := method_12_code
def yL_remove : MethodName := ⟨RL, "remove", "(LMarginalia;II[J)I"⟩
abbrev cL_propose : ByteArray := method_13_code
def yL_propose : MethodName := ⟨RL, "propose", "(LMarginalia;IIII[J)I"⟩
abbrev cL_take : ByteArray := method_14_code
def yL_take : MethodName := ⟨RL, "take", "(LMarginalia;II[J)I"⟩
abbrev cL_many : ByteArray := method_15_code
def yL_many : MethodName := ⟨RL, "many", "(LMarginalia;I[J)I"⟩
abbrev cL_right : ByteArray := method_16_code
def yL_right : MethodName := ⟨RL, "right", "(LMarginalia;I[J)I"⟩
abbrev cL_ofNote : ByteArray := method_17_code
def yL_ofNote : MethodName := ⟨RL, "ofNote", "(LMarginalia;II[J)I"⟩
abbrev cL_quote : ByteArray := method_18_code
def yL_quote : MethodName := ⟨RL, "quote", "(LMarginalia;II[J)I"⟩
abbrev cL_sees : ByteArray := method_19_code
def yL_sees : MethodName := ⟨RL, "sees", "(LMarginalia;II[J)I"⟩
abbrev cL_thread : ByteArray := method_20_code
def yL_thread : MethodName := ⟨RL, "thread", "(LMarginalia;II[J)I"⟩
abbrev cL_over : ByteArray := method_21_code
def yL_over : MethodName := ⟨RL, "over", "(LMarginalia;II[J)I"⟩
abbrev cL_export : ByteArray := method_22_code
def yL_export : MethodName := ⟨RL, "export", "(LMarginalia;IZ[J)I"⟩
abbrev cL_exported : ByteArray := method_23_code
def yL_exported : MethodName := ⟨RL, "exported", "(LMarginalia;II[J)I"⟩
abbrev cL_lostBy : ByteArray := method_24_code
def yL_lostBy : MethodName := ⟨RL, "lostBy", "(LMarginalia;II[J)I"⟩
abbrev cL_wouldHeal : ByteArray := method_25_code
def yL_wouldHeal : MethodName := ⟨RL, "wouldHeal", "(LMarginalia;I[J)I"⟩
abbrev cL_wouldSee : ByteArray := method_26_code
def yL_wouldSee : MethodName := ⟨RL, "wouldSee", "(LMarginalia;II[J)I"⟩
abbrev cL_law : ByteArray := code
def yL_law : MethodName := ⟨RL, "law", "([I)Z"⟩
abbrev vwCl : List vw_C := [(RX0, TX0, 2), (RX1, TX1, 2), (RX2, TX2, 10), (RX3, TX3, 8), (RX4, TX4, 5), (RX5, TX5, 7), (RX6, TX6, 23)]
end
section
/-! THE ABSTRACT MACHINE: values with mathematical ints, a memory of plain functions, an instruction = a monotone predicate transformer; WP = their least closure. Nothing of the JVM model is read here but types. -/
abbrev Zv : Type := Int ⊕ (Int64 ⊕ (UInt64 ⊕ Option Nat))
abbrev zi (x : Int) : Zv := .inl x
abbrev zl (x : Int64) : Zv := .inr (.inl x)
abbrev zd (x : UInt64) : Zv := .inr (.inr (.inl x))
abbrev zr (x : Option Nat) : Zv := .inr (.inr (.inr x))
def inR (x : Int) : Prop := -2147483648 ≤ x ∧ x ≤ 2147483647
def okz (v : Zv) : Prop := match v with
  | .inl x => inR x
  | _ => True
def cz (v : Zv) : Value := match v with
  | .inl x => .int (Int32.ofInt x)
  | .inr (.inl x) => .long x
  | .inr (.inr (.inl x)) => .double x
  | .inr (.inr (.inr r)) => va_rf r
def ctz (v : Zv) : Nat := match v with
  | .inl _ => 1
  | .inr (.inl _) => 2
  | .inr (.inr (.inl _)) => 2
  | .inr (.inr (.inr _)) => 1
abbrev Zl : Type := List (Option Zv)
/-- the memory: kinds (0 nothing; 1..7 the objects; 10 int[], 11 long[], 12 boolean[], 13 Note[], 14 int[][], 15 the script), lengths, ints, references, longs; how many cells and slots were made since the start -/
abbrev Zh : Type := (Nat → Nat) × (Nat → Int) × (Nat → Int → Int) × (Nat → Int → Option Nat) × (Nat → Int → Int64) × Nat × Nat
def gK (h : Zh) (a : Nat) : Nat := h.1 a
def gL (h : Zh) (a : Nat) : Int := h.2.1 a
def gI (h : Zh) (a : Nat) (i : Int) : Int := h.2.2.1 a i
def gR (h : Zh) (a : Nat) (i : Int) : Option Nat := h.2.2.2.1 a i
def gJ (h : Zh) (a : Nat) (i : Int) : Int64 := h.2.2.2.2.1 a i
def gC (h : Zh) : Nat := h.2.2.2.2.2.1
def gS (h : Zh) : Nat := h.2.2.2.2.2.2
/-- the room of the whole run -/
def MXC : Nat := 610736
def MXS : Nat := 7263896
def pI (h : Zh) (a : Nat) (k x : Int) : Zh := (h.1, h.2.1, (fun b j => if b = a ∧ j = k then x else gI h b j), h.2.2.2.1, h.2.2.2.2)
def pR (h : Zh) (a : Nat) (k : Int) (x : Option Nat) : Zh := (h.1, h.2.1, h.2.2.1, (fun b j => if b = a ∧ j = k then x else gR h b j), h.2.2.2.2)
def pJ (h : Zh) (a : Nat) (k : Int) (x : Int64) : Zh := (h.1, h.2.1, h.2.2.1, h.2.2.2.1, (fun b j => if b = a ∧ j = k then x else gJ h b j), h.2.2.2.2.2)
def nw (h : Zh) (a kd : Nat) (n : Int) : Zh := ((fun b => if b = a then kd else gK h b), (fun b => if b = a then n else gL h b), (fun b j => if b = a then 0 else gI h b j), (fun b j => if b = a then none else gR h b j), (fun b j => if b = a then 0 else gJ h b j), gC h + 1, gS h + n.toNat)
/-- new int[n][m]: the outer one at q, the rows at r 0, r 1, .. -/
def nw2 (h : Zh) (q : Nat) (r : Nat → Nat) (n : Nat) (m : Int) : Zh :=
  ((fun b => if b = q then 14 else if b ∈ (List.range n).map r then 10 else gK h b), (fun b => if b = q then (n : Int) else if b ∈ (List.range n).map r then m else gL h b), (fun b j => if b = q ∨ b ∈ (List.range n).map r then 0 else gI h b j),
    (fun b j => if b = q then (if 0 ≤ j ∧ j < n then some (r j.toNat) else none) else if b ∈ (List.range n).map r then none else gR h b j), (fun b j => if b = q ∨ b ∈ (List.range n).map r then 0 else gJ h b j), gC h + 1 + n, gS h + n + n * m.toNat)
/-- an exception was made -/
def tk (h : Zh) : Zh := (h.1, h.2.1, h.2.2.1, h.2.2.2.1, h.2.2.2.2.1, gC h + 1, gS h + 6)
def cpy (h : Zh) (s : Nat) (sp : Int) (d : Nat) (dp n : Int) : Zh := (h.1, h.2.1, (fun b j => if b = d ∧ dp ≤ j ∧ j < dp + n then gI h s (sp + (j - dp)) else gI h b j), h.2.2.2.1, h.2.2.2.2)
theorem gK_pI (h : Zh) (a : Nat) (k x : Int) (b : Nat) : gK (pI h a k x) b = gK h b := rfl
theorem gL_pI (h : Zh) (a : Nat) (k x : Int) (b : Nat) : gL (pI h a k x) b = gL h b := rfl
theorem gI_pI (h : Zh) (a : Nat) (k x : Int) (b : Nat) (j : Int) : gI (pI h a k x) b j = if b = a ∧ j = k then x else gI h b j := rfl
theorem gR_pI (h : Zh) (a : Nat) (k x : Int) (b : Nat) (j : Int) : gR (pI h a k x) b j = gR h b j := rfl
theorem gJ_pI (h : Zh) (a : Nat) (k x : Int) (b : Nat) (j : Int) : gJ (pI h a k x) b j = gJ h b j := rfl
theorem gK_pR (h : Zh) (a : Nat) (k : Int) (x : Option Nat) (b : Nat) : gK (pR h a k x) b = gK h b := rfl
theorem gL_pR (h : Zh) (a : Nat) (k : Int) (x : Option Nat) (b : Nat) : gL (pR h a k x) b = gL h b := rfl
theorem gI_pR (h : Zh) (a : Nat) (k : Int) (x : Option Nat) (b : Nat) (j : Int) : gI (pR h a k x) b j = gI h b j := rfl
theorem gR_pR (h : Zh) (a : Nat) (k : Int) (x : Option Nat) (b : Nat) (j : Int) : gR (pR h a k x) b j = if b = a ∧ j = k then x else gR h b j := rfl
theorem gJ_pR (h : Zh) (a : Nat) (k : Int) (x : Option Nat) (b : Nat) (j : Int) : gJ (pR h a k x) b j = gJ h b j := rfl
theorem gK_pJ (h : Zh) (a : Nat) (k : Int) (x : Int64) (b : Nat) : gK (pJ h a k x) b = gK h b := rfl
theorem gL_pJ (h : Zh) (a : Nat) (k : Int) (x : Int64) (b : Nat) : gL (pJ h a k x) b = gL h b := rfl
theorem gI_pJ (h : Zh) (a : Nat) (k : Int) (x : Int64) (b : Nat) (j : Int) : gI (pJ h a k x) b j = gI h b j := rfl
theorem gR_pJ (h : Zh) (a : Nat) (k : Int) (x : Int64) (b : Nat) (j : Int) : gR (pJ h a k x) b j = gR h b j := rfl
theorem gJ_pJ (h : Zh) (a : Nat) (k : Int) (x : Int64) (b : Nat) (j : Int) : gJ (pJ h a k x) b j = if b = a ∧ j = k then x else gJ h b j := rfl
theorem gK_nw (h : Zh) (a kd : Nat) (n : Int) (b : Nat) : gK (nw h a kd n) b = if b = a then kd else gK h b := rfl
theorem gL_nw (h : Zh) (a kd : Nat) (n : Int) (b : Nat) : gL (nw h a kd n) b = if b = a then n else gL h b := rfl
theorem gI_nw (h : Zh) (a kd : Nat) (n : Int) (b : Nat) (j : Int) : gI (nw h a kd n) b j = if b = a then 0 else gI h b j := rfl
theorem gR_nw (h : Zh) (a kd : Nat) (n : Int) (b : Nat) (j : Int) : gR (nw h a kd n) b j = if b = a then none else gR h b j := rfl
theorem gJ_nw (h : Zh) (a kd : Nat) (n : Int) (b : Nat) (j : Int) : gJ (nw h a kd n) b j = if b = a then 0 else gJ h b j := rfl
theorem gK_nw2 (h : Zh) (q : Nat) (r : Nat → Nat) (n : Nat) (m : Int) (b : Nat) : gK (nw2 h q r n m) b = if b = q then 14 else if b ∈ (List.range n).map r then 10 else gK h b := rfl
theorem gL_nw2 (h : Zh) (q : Nat) (r : Nat → Nat) (n : Nat) (m : Int) (b : Nat) : gL (nw2 h q r n m) b = if b = q then (n : Int) else if b ∈ (List.range n).map r then m else gL h b := rfl
theorem gI_nw2 (h : Zh) (q : Nat) (r : Nat → Nat) (n : Nat) (m : Int) (b : Nat) (j : Int) : gI (nw2 h q r n m) b j = if b = q ∨ b ∈ (List.range n).map r then 0 else gI h b j := rfl
theorem gR_nw2 (h : Zh) (q : Nat) (r : Nat → Nat) (n : Nat) (m : Int) (b : Nat) (j : Int) : gR (nw2 h q r n m) b j = if b = q then (if 0 ≤ j ∧ j < n then some (r j.toNat) else none) else if b ∈ (List.range n).map r then none else gR h b j := rfl
theorem gJ_nw2 (h : Zh) (q : Nat) (r : Nat → Nat) (n : Nat) (m : Int) (b : Nat) (j : Int) : gJ (nw2 h q r n m) b j = if b = q ∨ b ∈ (List.range n).map r then 0 else gJ h b j := rfl
theorem gK_cpy (h : Zh) (s : Nat) (sp : Int) (d : Nat) (dp n : Int) (b : Nat) : gK (cpy h s sp d dp n) b = gK h b := rfl
theorem gL_cpy (h : Zh) (s : Nat) (sp : Int) (d : Nat) (dp n : Int) (b : Nat) : gL (cpy h s sp d dp n) b = gL h b := rfl
theorem gI_cpy (h : Zh) (s : Nat) (sp : Int) (d : Nat) (dp n : Int) (b : Nat) (j : Int) : gI (cpy h s sp d dp n) b j = if b = d ∧ dp ≤ j ∧ j < dp + n then gI h s (sp + (j - dp)) else gI h b j := rfl
theorem gR_cpy (h : Zh) (s : Nat) (sp : Int) (d : Nat) (dp n : Int) (b : Nat) (j : Int) : gR (cpy h s sp d dp n) b j = gR h b j := rfl
theorem gJ_cpy (h : Zh) (s : Nat) (sp : Int) (d : Nat) (dp n : Int) (b : Nat) (j : Int) : gJ (cpy h s sp d dp n) b j = gJ h b j := rfl
theorem gC_pI (h : Zh) (a : Nat) (k x : Int) : gC (pI h a k x) = gC h := rfl
theorem gS_pI (h : Zh) (a : Nat) (k x : Int) : gS (pI h a k x) = gS h := rfl
theorem gC_pR (h : Zh) (a : Nat) (k : Int) (x : Option Nat) : gC (pR h a k x) = gC h := rfl
theorem gS_pR (h : Zh) (a : Nat) (k : Int) (x : Option Nat) : gS (pR h a k x) = gS h := rfl
theorem gC_pJ (h : Zh) (a : Nat) (k : Int) (x : Int64) : gC (pJ h a k x) = gC h := rfl
theorem gS_pJ (h : Zh) (a : Nat) (k : Int) (x : Int64) : gS (pJ h a k x) = gS h := rfl
theorem gC_cpy (h : Zh) (s : Nat) (sp : Int) (d : Nat) (dp n : Int) : gC (cpy h s sp d dp n) = gC h := rfl
theorem gS_cpy (h : Zh) (s : Nat) (sp : Int) (d : Nat) (dp n : Int) : gS (cpy h s sp d dp n) = gS h := rfl
theorem gC_nw (h : Zh) (a kd : Nat) (n : Int) : gC (nw h a kd n) = gC h + 1 := rfl
theorem gS_nw (h : Zh) (a kd : Nat) (n : Int) : gS (nw h a kd n) = gS h + n.toNat := rfl
theorem gC_nw2 (h : Zh) (q : Nat) (r : Nat → Nat) (n : Nat) (m : Int) : gC (nw2 h q r n m) = gC h + 1 + n := rfl
theorem gS_nw2 (h : Zh) (q : Nat) (r : Nat → Nat) (n : Nat) (m : Int) : gS (nw2 h q r n m) = gS h + n + n * m.toNat := rfl
theorem gK_tk (h : Zh) (b : Nat) : gK (tk h) b = gK h b := rfl
theorem gL_tk (h : Zh) (b : Nat) : gL (tk h) b = gL h b := rfl
theorem gI_tk (h : Zh) (b : Nat) (j : Int) : gI (tk h) b j = gI h b j := rfl
theorem gR_tk (h : Zh) (b : Nat) (j : Int) : gR (tk h) b j = gR h b j := rfl
theorem gJ_tk (h : Zh) (b : Nat) (j : Int) : gJ (tk h) b j = gJ h b j := rfl
theorem gC_tk (h : Zh) : gC (tk h) = gC h + 1 := rfl
theorem gS_tk (h : Zh) : gS (tk h) = gS h + 6 := rfl
/-- a reference to a thing of the kind c -/
def kd (h : Zh) (r : Option Nat) (c : Nat) : Prop := ∃ a, r = some a ∧ gK h a = c
def ad (r : Option Nat) : Nat := r.getD 0
theorem ad_some (a : Nat) : ad (some a) = a := rfl
theorem kd_some (h : Zh) (a c : Nat) : kd h (some a) c ↔ gK h a = c := ⟨fun ⟨b, e, k⟩ => by cases e; exact k, fun k => ⟨a, rfl, k⟩⟩
abbrev Zo : Type := Option Zv ⊕ Nat
abbrev Zp : Type := Zo → Zh → Prop
abbrev Zx : Type := Nat → Nat → Zl → List Zv → Zh → Zp → Prop
abbrev Op1 : Type := Zx → Zx
def clr (ls : Zl) (k : Nat) : Zl := match k with
  | 0 => ls
  | j + 1 => match ls[j]? with
    | some (some (.inr (.inl _))) => ls.set j none
    | some (some (.inr (.inr (.inl _)))) => ls.set j none
    | _ => ls
def st1 (ls : Zl) (k : Nat) (v : Zv) : Zl := (clr ls k).set k (some v)
def st2 (ls : Zl) (k : Nat) (v : Zv) : Zl := ((clr ls k).set k (some v)).set (k + 1) none
def sl1 (vs : List Zv) : Zl := match vs with
  | [] => []
  | v :: r => if ctz v = 2 then some v :: none :: sl1 r else some v :: sl1 r
def ent (n : Nat) (vs : List Zv) : Zl := sl1 vs ++ List.replicate (n - (sl1 vs).length) none
-- ---- the instructions
def oFail : Op1 := fun _ _ _ _ _ _ _ => False
def oLdI (k n : Nat) : Op1 := fun X m pc ls st h Q => match ls[k]? with
  | some (some (.inl x)) => X m (pc + n) ls (zi x :: st) h Q
  | _ => False
def oLdL (k n : Nat) : Op1 := fun X m pc ls st h Q => match ls[k]? with
  | some (some (.inr (.inl x))) => X m (pc + n) ls (zl x :: st) h Q
  | _ => False
def oLdD (k n : Nat) : Op1 := fun X m pc ls st h Q => match ls[k]? with
  | some (some (.inr (.inr (.inl x)))) => X m (pc + n) ls (zd x :: st) h Q
  | _ => False
def oLdR (k n : Nat) : Op1 := fun X m pc ls st h Q => match ls[k]? with
  | some (some (.inr (.inr (.inr x)))) => X m (pc + n) ls (zr x :: st) h Q
  | _ => False
def oStI (k n : Nat) : Op1 := fun X m pc ls st h Q => match st with
  | .inl x :: r => X m (pc + n) (st1 ls k (zi x)) r h Q
  | _ => False
def oStL (k n : Nat) : Op1 := fun X m pc ls st h Q => match st with
  | .inr (.inl x) :: r => X m (pc + n) (st2 ls k (zl x)) r h Q
  | _ => False
def oStD (k n : Nat) : Op1 := fun X m pc ls st h Q => match st with
  | .inr (.inr (.inl x)) :: r => X m (pc + n) (st2 ls k (zd x)) r h Q
  | _ => False
def oStR (k n : Nat) : Op1 := fun X m pc ls st h Q => match st with
  | .inr (.inr (.inr x)) :: r => X m (pc + n) (st1 ls k (zr x)) r h Q
  | _ => False
def oCI (x : Int) (n : Nat) : Op1 := fun X m pc ls st h Q => X m (pc + n) ls (zi x :: st) h Q
def oCL (x : Int64) (n : Nat) : Op1 := fun X m pc ls st h Q => X m (pc + n) ls (zl x :: st) h Q
def oCD : Op1 := fun X m pc ls st h Q => X m (pc + 1) ls (zd FP.dconst0 :: st) h Q
def oNull : Op1 := fun X m pc ls st h Q => X m (pc + 1) ls (zr none :: st) h Q
def oInc (k : Nat) (d : Int) : Op1 := fun X m pc ls st h Q => match ls[k]? with
  | some (some (.inl x)) => inR (x + d) ∧ X m (pc + 3) (st1 ls k (zi (x + d))) st h Q
  | _ => False
def oAdd : Op1 := fun X m pc ls st h Q => match st with
  | .inl b :: .inl a :: r => inR (a + b) ∧ X m (pc + 1) ls (zi (a + b) :: r) h Q
  | _ => False
def oSub : Op1 := fun X m pc ls st h Q => match st with
  | .inl b :: .inl a :: r => inR (a - b) ∧ X m (pc + 1) ls (zi (a - b) :: r) h Q
  | _ => False
def oMul : Op1 := fun X m pc ls st h Q => match st with
  | .inl b :: .inl a :: r => inR (a * b) ∧ X m (pc + 1) ls (zi (a * b) :: r) h Q
  | _ => False
/-- of a dividend that is not below 0 and a divisor above 0 -/
def oDiv : Op1 := fun X m pc ls st h Q => match st with
  | .inl b :: .inl a :: r => (0 ≤ a ∧ 0 < b) ∧ X m (pc + 1) ls (zi (a / b) :: r) h Q
  | _ => False
def oRem : Op1 := fun X m pc ls st h Q => match st with
  | .inl b :: .inl a :: r => (0 ≤ a ∧ 0 < b) ∧ X m (pc + 1) ls (zi (a % b) :: r) h Q
  | _ => False
/-- by a mask 2^k - 1 -/
def oAnd : Op1 := fun X m pc ls st h Q => match st with
  | .inl b :: .inl a :: r => b = 31 ∧ X m (pc + 1) ls (zi (a % 32) :: r) h Q
  | _ => False
def oI2L : Op1 := fun X m pc ls st h Q => match st with
  | .inl a :: r => X m (pc + 1) ls (zl (Int64.ofInt a) :: r) h Q
  | _ => False
def oLAdd : Op1 := fun X m pc ls st h Q => match st with
  | .inr (.inl b) :: .inr (.inl a) :: r => X m (pc + 1) ls (zl (a + b) :: r) h Q
  | _ => False
def oLMul : Op1 := fun X m pc ls st h Q => match st with
  | .inr (.inl b) :: .inr (.inl a) :: r => X m (pc + 1) ls (zl (a * b) :: r) h Q
  | _ => False
def oLCmp : Op1 := fun X m pc ls st h Q => match st with
  | .inr (.inl b) :: .inr (.inl a) :: r => X m (pc + 1) ls (zi (if a = b then 0 else if a < b then -1 else 1) :: r) h Q
  | _ => False
def oI2D : Op1 := fun X m pc ls st h Q => match st with
  | .inl a :: r => X m (pc + 1) ls (zd (FP.i2d (Int32.ofInt a)) :: r) h Q
  | _ => False
def oDDiv : Op1 := fun X m pc ls st h Q => match st with
  | .inr (.inr (.inl b)) :: .inr (.inr (.inl a)) :: r => vf_n64 (FP.ddiv a b) ∧ X m (pc + 1) ls (zd (FP.ddiv a b) :: r) h Q
  | _ => False
def oDCmp (c : CmpOp) : Op1 := fun X m pc ls st h Q => match st with
  | .inr (.inr (.inl b)) :: .inr (.inr (.inl a)) :: r => X m (pc + 1) ls (zi (Op.cmpValue (FP.dcmp a b) c).toInt :: r) h Q
  | _ => False
def oDup : Op1 := fun X m pc ls st h Q => match st with
  | a :: r => ctz a = 1 ∧ X m (pc + 1) ls (a :: a :: r) h Q
  | _ => False
def oDupX1 : Op1 := fun X m pc ls st h Q => match st with
  | a :: b :: r => (ctz a = 1 ∧ ctz b = 1) ∧ X m (pc + 1) ls (a :: b :: a :: r) h Q
  | _ => False
def oDup2 : Op1 := fun X m pc ls st h Q => match st with
  | a :: b :: r => (ctz a = 1 ∧ ctz b = 1) ∧ X m (pc + 1) ls (a :: b :: a :: b :: r) h Q
  | _ => False
def br (c : Prop) (t f : Prop) : Prop := (c → t) ∧ (¬ c → f)
def oZeq (t : Nat) : Op1 := fun X m pc ls st h Q => match st with
  | .inl a :: r => br (a = 0) (X m t ls r h Q) (X m (pc + 3) ls r h Q)
  | _ => False
def oZne (t : Nat) : Op1 := fun X m pc ls st h Q => match st with
  | .inl a :: r => br (a = 0) (X m (pc + 3) ls r h Q) (X m t ls r h Q)
  | _ => False
def oZlt (t : Nat) : Op1 := fun X m pc ls st h Q => match st with
  | .inl a :: r => br (a < 0) (X m t ls r h Q) (X m (pc + 3) ls r h Q)
  | _ => False
def oZge (t : Nat) : Op1 := fun X m pc ls st h Q => match st with
  | .inl a :: r => br (0 ≤ a) (X m t ls r h Q) (X m (pc + 3) ls r h Q)
  | _ => False
def oZgt (t : Nat) : Op1 := fun X m pc ls st h Q => match st with
  | .inl a :: r => br (0 < a) (X m t ls r h Q) (X m (pc + 3) ls r h Q)
  | _ => False
def oZle (t : Nat) : Op1 := fun X m pc ls st h Q => match st with
  | .inl a :: r => br (a ≤ 0) (X m t ls r h Q) (X m (pc + 3) ls r h Q)
  | _ => False
def oCeq (t : Nat) : Op1 := fun X m pc ls st h Q => match st with
  | .inl b :: .inl a :: r => br (a = b) (X m t ls r h Q) (X m (pc + 3) ls r h Q)
  | _ => False
def oCne (t : Nat) : Op1 := fun X m pc ls st h Q => match st with
  | .inl b :: .inl a :: r => br (a = b) (X m (pc + 3) ls r h Q) (X m t ls r h Q)
  | _ => False
def oClt (t : Nat) : Op1 := fun X m pc ls st h Q => match st with
  | .inl b :: .inl a :: r => br (a < b) (X m t ls r h Q) (X m (pc + 3) ls r h Q)
  | _ => False
def oCge (t : Nat) : Op1 := fun X m pc ls st h Q => match st with
  | .inl b :: .inl a :: r => br (b ≤ a) (X m t ls r h Q) (X m (pc + 3) ls r h Q)
  | _ => False
def oCgt (t : Nat) : Op1 := fun X m pc ls st h Q => match st with
  | .inl b :: .inl a :: r => br (b < a) (X m t ls r h Q) (X m (pc + 3) ls r h Q)
  | _ => False
def oCle (t : Nat) : Op1 := fun X m pc ls st h Q => match st with
  | .inl b :: .inl a :: r => br (a ≤ b) (X m t ls r h Q) (X m (pc + 3) ls r h Q)
  | _ => False
def oNul (t : Nat) : Op1 := fun X m pc ls st h Q => match st with
  | .inr (.inr (.inr a)) :: r => br (a = none) (X m t ls r h Q) (X m (pc + 3) ls r h Q)
  | _ => False
def oNNul (t : Nat) : Op1 := fun X m pc ls st h Q => match st with
  | .inr (.inr (.inr a)) :: r => br (a = none) (X m (pc + 3) ls r h Q) (X m t ls r h Q)
  | _ => False
def oGoto (t : Nat) : Op1 := fun X m _ ls st h Q => X m t ls st h Q
def swA (X : Nat → Prop) (x lo : Int) (ts : List Nat) : Prop := match ts with
  | [] => True
  | t :: r => (x = lo → X t) ∧ swA X x (lo + 1) r
def oSw (lo : Int) (ts : List Nat) (d : Nat) : Op1 := fun X m _ ls st h Q => match st with
  | .inl x :: r => ((x < lo ∨ lo + ts.length ≤ x) → X m d ls r h Q) ∧ swA (fun t => X m t ls r h Q) x lo ts
  | _ => False
def oGetI (c : Nat) (k : Nat) : Op1 := fun X m pc ls st h Q => match st with
  | .inr (.inr (.inr r)) :: t => kd h r c ∧ X m (pc + 3) ls (zi (gI h (ad r) k) :: t) h Q
  | _ => False
def oGetR (c : Nat) (k : Nat) : Op1 := fun X m pc ls st h Q => match st with
  | .inr (.inr (.inr r)) :: t => kd h r c ∧ X m (pc + 3) ls (zr (gR h (ad r) k) :: t) h Q
  | _ => False
def oPutI (c : Nat) (k : Nat) : Op1 := fun X m pc ls st h Q => match st with
  | .inl x :: .inr (.inr (.inr r)) :: t => kd h r c ∧ X m (pc + 3) ls t (pI h (ad r) k x) Q
  | _ => False
def oPutZ (c : Nat) (k : Nat) : Op1 := fun X m pc ls st h Q => match st with
  | .inl x :: .inr (.inr (.inr r)) :: t => (kd h r c ∧ (x = 0 ∨ x = 1)) ∧ X m (pc + 3) ls t (pI h (ad r) k x) Q
  | _ => False
def oPutR (c : Nat) (k : Nat) : Op1 := fun X m pc ls st h Q => match st with
  | .inr (.inr (.inr x)) :: .inr (.inr (.inr r)) :: t => kd h r c ∧ X m (pc + 3) ls t (pR h (ad r) k x) Q
  | _ => False
def ixa (h : Zh) (r : Option Nat) (c : Nat) (i : Int) : Prop := kd h r c ∧ 0 ≤ i ∧ i < gL h (ad r)
def oALdI (c : Nat) : Op1 := fun X m pc ls st h Q => match st with
  | .inl i :: .inr (.inr (.inr r)) :: t => ixa h r c i ∧ X m (pc + 1) ls (zi (gI h (ad r) i) :: t) h Q
  | _ => False
def oALdJ : Op1 := fun X m pc ls st h Q => match st with
  | .inl i :: .inr (.inr (.inr r)) :: t => ixa h r 11 i ∧ X m (pc + 1) ls (zl (gJ h (ad r) i) :: t) h Q
  | _ => False
def oALdR (c : Nat) : Op1 := fun X m pc ls st h Q => match st with
  | .inl i :: .inr (.inr (.inr r)) :: t => ixa h r c i ∧ X m (pc + 1) ls (zr (gR h (ad r) i) :: t) h Q
  | _ => False
def oAStI : Op1 := fun X m pc ls st h Q => match st with
  | .inl x :: .inl i :: .inr (.inr (.inr r)) :: t => ixa h r 10 i ∧ X m (pc + 1) ls t (pI h (ad r) i x) Q
  | _ => False
def oAStZ : Op1 := fun X m pc ls st h Q => match st with
  | .inl x :: .inl i :: .inr (.inr (.inr r)) :: t => (ixa h r 12 i ∧ (x = 0 ∨ x = 1)) ∧ X m (pc + 1) ls t (pI h (ad r) i x) Q
  | _ => False
def oAStJ : Op1 := fun X m pc ls st h Q => match st with
  | .inr (.inl x) :: .inl i :: .inr (.inr (.inr r)) :: t => ixa h r 11 i ∧ X m (pc + 1) ls t (pJ h (ad r) i x) Q
  | _ => False
/-- a thing of the kind e into an array of references of the kind c -/
def oAStR (c e : Nat) : Op1 := fun X m pc ls st h Q => match st with
  | .inr (.inr (.inr x)) :: .inl i :: .inr (.inr (.inr r)) :: t => (ixa h r c i ∧ kd h x e) ∧ X m (pc + 1) ls t (pR h (ad r) i x) Q
  | _ => False
def oALen (c : Nat) : Op1 := fun X m pc ls st h Q => match st with
  | .inr (.inr (.inr r)) :: t => kd h r c ∧ X m (pc + 1) ls (zi (gL h (ad r)) :: t) h Q
  | _ => False
/-- new C: kind c, n fields -/
def oNew (c n : Nat) : Op1 := fun X m pc ls st h Q => (gC h + 1 ≤ MXC ∧ gS h + n ≤ MXS) ∧ ∀ a, gK h a = 0 → X m (pc + 3) ls (zr (some a) :: st) (nw h a c n) Q
def oNewA (c len : Nat) : Op1 := fun X m pc ls st h Q => match st with
  | .inl n :: t => (0 ≤ n ∧ n ≤ 1000000 ∧ gC h + 1 ≤ MXC ∧ gS h + n.toNat ≤ MXS) ∧ ∀ a, gK h a = 0 → X m (pc + len) ls (zr (some a) :: t) (nw h a c n) Q
  | _ => False
def oNew2 : Op1 := fun X m pc ls st h Q => match st with
  | .inl k :: .inl n :: t => (0 ≤ n ∧ n ≤ 1000 ∧ 0 ≤ k ∧ k ≤ 1000 ∧ gC h + 1 + n.toNat ≤ MXC ∧ gS h + n.toNat + n.toNat * k.toNat ≤ MXS) ∧ ∀ (q : Nat) (r : Nat → Nat), gK h q = 0 → (∀ i, i < n.toNat → gK h (r i) = 0 ∧ r i ≠ q) → (∀ i j, i < n.toNat → j < n.toNat → r i = r j → i = j) →
      X m (pc + 4) ls (zr (some q) :: t) (nw2 h q r n.toNat k) Q
  | _ => False
def oMax : Op1 := fun X m pc ls st h Q => match st with
  | .inl b :: .inl a :: r => ((r.map ctz).sum ≤ 8) ∧ X m (pc + 3) ls (zi (if a < b then b else a) :: r) h Q
  | _ => False
def oMin : Op1 := fun X m pc ls st h Q => match st with
  | .inl b :: .inl a :: r => ((r.map ctz).sum ≤ 8) ∧ X m (pc + 3) ls (zi (if b < a then b else a) :: r) h Q
  | _ => False
def oAbs : Op1 := fun X m pc ls st h Q => match st with
  | .inl a :: r => ((r.map ctz).sum ≤ 8 ∧ inR (-a)) ∧ X m (pc + 3) ls (zi (if a < 0 then -a else a) :: r) h Q
  | _ => False
def oCpy : Op1 := fun X m pc ls st h Q => match st with
  | .inl n :: .inl dp :: .inr (.inr (.inr d)) :: .inl sp :: .inr (.inr (.inr s)) :: r => ((r.map ctz).sum ≤ 8 ∧ kd h s 10 ∧ kd h d 10 ∧ 0 ≤ n ∧ 0 ≤ sp ∧ 0 ≤ dp ∧ sp + n ≤ gL h (ad s) ∧ dp + n ≤ gL h (ad d)) ∧ X m (pc + 3) ls r (cpy h (ad s) sp (ad d) dp n) Q
  | _ => False
/-- Object's constructor -/
def oObj : Op1 := fun X m pc ls st h Q => match st with
  | .inr (.inr (.inr (some _))) :: r => ((r.map ctz).sum ≤ 8) ∧ X m (pc + 3) ls r h Q
  | _ => False
/-- behind a call; hs: the handlers of this place, a code of a class and where it goes on (none: it goes out) -/
def kont (X : Zx) (m pc : Nat) (ls : Zl) (r : List Zv) (hs : List (Nat × Nat)) (Q : Zp) : Zp := fun o h => match o with
  | .inl v => X m (pc + 3) ls (v.toList ++ r) h Q
  | .inr e => match hs with
    | [] => Q (.inr e) h
    | _ => match hs.lookup e with
      | some t => ∀ q, X m t ls [zr (some q)] h Q
      | none => False
/-- a call of method m2 (of n parameters, maxL locals) -/
def oCallS (m2 n maxL : Nat) (hs : List (Nat × Nat)) : Op1 := fun X m pc ls st h Q =>
  ((st.drop n).map ctz).sum ≤ 8 ∧ n ≤ st.length ∧ (sl1 (st.take n).reverse).length ≤ maxL ∧ X m2 0 (ent maxL (st.take n).reverse) [] h (kont X m pc ls (st.drop n) hs Q)
/-- the receiver, of the kind c, is below the n parameters -/
def oCallV (m2 n maxL c : Nat) (hs : List (Nat × Nat)) : Op1 := fun X m pc ls st h Q => match st.drop n with
  | .inr (.inr (.inr r)) :: t => (t.map ctz).sum ≤ 8 ∧ kd h r c ∧ n ≤ st.length ∧ (sl1 (zr r :: (st.take n).reverse)).length ≤ maxL ∧ X m2 0 (ent maxL (zr r :: (st.take n).reverse)) [] h (kont X m pc ls t hs Q)
  | _ => False
def oRetI : Op1 := fun _ _ _ _ st h Q => match st with
  | [.inl x] => Q (.inl (some (zi x))) h
  | _ => False
def oRetZ : Op1 := fun _ _ _ _ st h Q => match st with
  | [.inl x] => (x = 0 ∨ x = 1) ∧ Q (.inl (some (zi x))) h
  | _ => False
def oRetL : Op1 := fun _ _ _ _ st h Q => match st with
  | [.inr (.inl x)] => Q (.inl (some (zl x))) h
  | _ => False
def oRetD : Op1 := fun _ _ _ _ st h Q => match st with
  | [.inr (.inr (.inl x))] => Q (.inl (some (zd x))) h
  | _ => False
def oRetR : Op1 := fun _ _ _ _ st h Q => match st with
  | [.inr (.inr (.inr x))] => Q (.inl (some (zr x))) h
  | _ => False
def oRetV : Op1 := fun _ _ _ _ st h Q => match st with
  | [] => Q (.inl none) h
  | _ => False
/-- new E, dup, the text, its constructor, athrow -/
def oThr (e : Nat) : Op1 := fun _ _ _ _ st h Q => ((st.map ctz).sum ≤ 8 ∧ gC h + 1 ≤ MXC ∧ gS h + 6 ≤ MXS) ∧ Q (.inr e) (tk h)
-- ---- monotone
def ZxLe (X Y : Zx) : Prop := ∀ m pc ls st h Q, X m pc ls st h Q → Y m pc ls st h Q
def ZxMo (X : Zx) : Prop := ∀ m pc ls st h (Q Q2 : Zp), (∀ o g, Q o g → Q2 o g) → X m pc ls st h Q → X m pc ls st h Q2
/-- both at once: a larger X, a larger Q -/
def OpMo (f : Op1) : Prop := ∀ (X Y : Zx), ZxLe X Y → ZxMo Y → ∀ m pc ls st h (Q Q2 : Zp), (∀ o g, Q o g → Q2 o g) → f X m pc ls st h Q → f Y m pc ls st h Q2
theorem br_mo {c a b a2 b2 : Prop} (h1 : a → a2) (h2 : b → b2) : br c a b → br c a2 b2 := fun ⟨x, y⟩ => ⟨fun z => h1 (x z), fun z => h2 (y z)⟩
theorem swA_mo {X Y : Nat → Prop} (h : ∀ t, X t → Y t) (x : Int) : ∀ (ts : List Nat) (lo : Int), swA X x lo ts → swA Y x lo ts
  | [], _, _ => trivial
  | _ :: r, lo, ⟨a, b⟩ => ⟨fun e => h _ (a e), swA_mo h x r (lo + 1) b⟩
theorem mo_id {X Y : Zx} (hXY : ZxLe X Y) (hY : ZxMo Y) {m pc : Nat} {ls : Zl} {st : List Zv} {h : Zh} {Q Q2 : Zp} (hQ : ∀ o g, Q o g → Q2 o g) : X m pc ls st h Q → Y m pc ls st h Q2 := fun k => hY _ _ _ _ _ _ _ hQ (hXY _ _ _ _ _ _ k)
theorem kont_mo {X Y : Zx} (hXY : ZxLe X Y) (hY : ZxMo Y) {m pc : Nat} {ls : Zl} {r : List Zv} {hs : List (Nat × Nat)} {Q Q2 : Zp} (hQ : ∀ o g, Q o g → Q2 o g) : ∀ o g, kont X m pc ls r hs Q o g → kont Y m pc ls r hs Q2 o g := by
  intro o g k
  match o, hs, k with
  | .inl v, hs, k => exact mo_id hXY hY hQ k
  | .inr e, [], k => exact hQ _ _ k
  | .inr e, q :: t, k =>
    unfold kont at k ⊢
    dsimp only at k ⊢
    split
    · next _ t9 e9 => rw [e9] at k; exact fun q => mo_id hXY hY hQ (k q)
    · next e9 => rw [e9] at k; exact k
end
section
theorem mo_oLdI (k n : Nat) : OpMo (oLdI k n) := by
  intro X Y hXY hY m pc ls st h Q Q2 hQ k
  unfold oLdI at k ⊢
  first
    | exact mo_id hXY hY hQ k
    | (split at k <;> first
        | exact k.elim
        | exact ⟨k.1, mo_id hXY hY hQ k.2⟩
        | exact mo_id hXY hY hQ k
        | exact br_mo (mo_id hXY hY hQ) (mo_id hXY hY hQ) k
        | exact hQ _ _ k
        | exact ⟨k.1, hQ _ _ k.2⟩)
theorem mo_oLdL (k n : Nat) : OpMo (oLdL k n) := by
  intro X Y hXY hY m pc ls st h Q Q2 hQ k
  unfold oLdL at k ⊢
  first
    | exact mo_id hXY hY hQ k
    | (split at k <;> first
        | exact k.elim
        | exact ⟨k.1, mo_id hXY hY hQ k.2⟩
        | exact mo_id hXY hY hQ k
        | exact br_mo (mo_id hXY hY hQ) (mo_id hXY hY hQ) k
        | exact hQ _ _ k
        | exact ⟨k.1, hQ _ _ k.2⟩)
theorem mo_oLdD (k n : Nat) : OpMo (oLdD k n) := by
  intro X Y hXY hY m pc ls st h Q Q2 hQ k
  unfold oLdD at k ⊢
  first
    | exact mo_id hXY hY hQ k
    | (split at k <;> first
        | exact k.elim
        | exact ⟨k.1, mo_id hXY hY hQ k.2⟩
        | exact mo_id hXY hY hQ k
        | exact br_mo (mo_id hXY hY hQ) (mo_id hXY hY hQ) k
        | exact hQ _ _ k
        | exact ⟨k.1, hQ _ _ k.2⟩)
theorem mo_oLdR (k n : Nat) : OpMo (oLdR k n) := by
  intro X Y hXY hY m pc ls st h Q Q2 hQ k
  unfold oLdR at k ⊢
  first
    | exact mo_id hXY hY hQ k
    | (split at k <;> first
        | exact k.elim
        | exact ⟨k.1, mo_id hXY hY hQ k.2⟩
        | exact mo_id hXY hY hQ k
        | exact br_mo (mo_id hXY hY hQ) (mo_id hXY hY hQ) k
        | exact hQ _ _ k
        | exact ⟨k.1, hQ _ _ k.2⟩)
theorem mo_oStI (k n : Nat) : OpMo (oStI k n) := by
  intro X Y hXY hY m pc ls st h Q Q2 hQ k
  unfold oStI at k ⊢
  first
    | exact mo_id hXY hY hQ k
    | (split at k <;> first
        | exact k.elim
        | exact ⟨k.1, mo_id hXY hY hQ k.2⟩
        | exact mo_id hXY hY hQ k
        | exact br_mo (mo_id hXY hY hQ) (mo_id hXY hY hQ) k
        | exact hQ _ _ k
        | exact ⟨k.1, hQ _ _ k.2⟩)
theorem mo_oStL (k n : Nat) : OpMo (oStL k n) := by
  intro X Y hXY hY m pc ls st h Q Q2 hQ k
  unfold oStL at k ⊢
  first
    | exact mo_id hXY hY hQ k
    | (split at k <;> first
        | exact k.elim
        | exact ⟨k.1, mo_id hXY hY hQ k.2⟩
        | exact mo_id hXY hY hQ k
        | exact br_mo (mo_id hXY hY hQ) (mo_id hXY hY hQ) k
        | exact hQ _ _ k
        | exact ⟨k.1, hQ _ _ k.2⟩)
theorem mo_oStD (k n : Nat) : OpMo (oStD k n) := by
  intro X Y hXY hY m pc ls st h Q Q2 hQ k
  unfold oStD at k ⊢
  first
    | exact mo_id hXY hY hQ k
    | (split at k <;> first
        | exact k.elim
        | exact ⟨k.1, mo_id hXY hY hQ k.2⟩
        | exact mo_id hXY hY hQ k
        | exact br_mo (mo_id hXY hY hQ) (mo_id hXY hY hQ) k
        | exact hQ _ _ k
        | exact ⟨k.1, hQ _ _ k.2⟩)
theorem mo_oStR (k n : Nat) : OpMo (oStR k n) := by
  intro X Y hXY hY m pc ls st h Q Q2 hQ k
  unfold oStR at k ⊢
  first
    | exact mo_id hXY hY hQ k
    | (split at k <;> first
        | exact k.elim
        | exact ⟨k.1, mo_id hXY hY hQ k.2⟩
        | exact mo_id hXY hY hQ k
        | exact br_mo (mo_id hXY hY hQ) (mo_id hXY hY hQ) k
        | exact hQ _ _ k
        | exact ⟨k.1, hQ _ _ k.2⟩)
theorem mo_oCI (x : Int) (n : Nat) : OpMo (oCI x n) := by
  intro X Y hXY hY m pc ls st h Q Q2 hQ k
  unfold oCI at k ⊢
  first
    | exact mo_id hXY hY hQ k
    | (split at k <;> first
        | exact k.elim
        | exact ⟨k.1, mo_id hXY hY hQ k.2⟩
        | exact mo_id hXY hY hQ k
        | exact br_mo (mo_id hXY hY hQ) (mo_id hXY hY hQ) k
        | exact hQ _ _ k
        | exact ⟨k.1, hQ _ _ k.2⟩)
theorem mo_oCL (x : Int64) (n : Nat) : OpMo (oCL x n) := by
  intro X Y hXY hY m pc ls st h Q Q2 hQ k
  unfold oCL at k ⊢
  first
    | exact mo_id hXY hY hQ k
    | (split at k <;> first
        | exact k.elim
        | exact ⟨k.1, mo_id hXY hY hQ k.2⟩
        | exact mo_id hXY hY hQ k
        | exact br_mo (mo_id hXY hY hQ) (mo_id hXY hY hQ) k
        | exact hQ _ _ k
        | exact ⟨k.1, hQ _ _ k.2⟩)
theorem mo_oCD : OpMo (oCD) := by
  intro X Y hXY hY m pc ls st h Q Q2 hQ k
  unfold oCD at k ⊢
  first
    | exact mo_id hXY hY hQ k
    | (split at k <;> first
        | exact k.elim
        | exact ⟨k.1, mo_id hXY hY hQ k.2⟩
        | exact mo_id hXY hY hQ k
        | exact br_mo (mo_id hXY hY hQ) (mo_id hXY hY hQ) k
        | exact hQ _ _ k
        | exact ⟨k.1, hQ _ _ k.2⟩)
theorem mo_oNull : OpMo (oNull) := by
  intro X Y hXY hY m pc ls st h Q Q2 hQ k
  unfold oNull at k ⊢
  first
    | exact mo_id hXY hY hQ k
    | (split at k <;> first
        | exact k.elim
        | exact ⟨k.1, mo_id hXY hY hQ k.2⟩
        | exact mo_id hXY hY hQ k
        | exact br_mo (mo_id hXY hY hQ) (mo_id hXY hY hQ) k
        | exact hQ _ _ k
        | exact ⟨k.1, hQ _ _ k.2⟩)
theorem mo_oInc (k : Nat) (d : Int) : OpMo (oInc k d) := by
  intro X Y hXY hY m pc ls st h Q Q2 hQ k
  unfold oInc at k ⊢
  first
    | exact mo_id hXY hY hQ k
    | (split at k <;> first
        | exact k.elim
        | exact ⟨k.1, mo_id hXY hY hQ k.2⟩
        | exact mo_id hXY hY hQ k
        | exact br_mo (mo_id hXY hY hQ) (mo_id hXY hY hQ) k
        | exact hQ _ _ k
        | exact ⟨k.1, hQ _ _ k.2⟩)
theorem mo_oAdd : OpMo (oAdd) := by
  intro X Y hXY hY m pc ls st h Q Q2 hQ k
  unfold oAdd at k ⊢
  first
    | exact mo_id hXY hY hQ k
    | (split at k <;> first
        | exact k.elim
        | exact ⟨k.1, mo_id hXY hY hQ k.2⟩
        | exact mo_id hXY hY hQ k
        | exact br_mo (mo_id hXY hY hQ) (mo_id hXY hY hQ) k
        | exact hQ _ _ k
        | exact ⟨k.1, hQ _ _ k.2⟩)
theorem mo_oSub : OpMo (oSub) := by
  intro X Y hXY hY m pc ls st h Q Q2 hQ k
  unfold oSub at k ⊢
  first
    | exact mo_id hXY hY hQ k
    | (split at k <;> first
        | exact k.elim
        | exact ⟨k.1, mo_id hXY hY hQ k.2⟩
        | exact mo_id hXY hY hQ k
        | exact br_mo (mo_id hXY hY hQ) (mo_id hXY hY hQ) k
        | exact hQ _ _ k
        | exact ⟨k.1, hQ _ _ k.2⟩)
theorem mo_oMul : OpMo (oMul) := by
  intro X Y hXY hY m pc ls st h Q Q2 hQ k
  unfold oMul at k ⊢
  first
    | exact mo_id hXY hY hQ k
    | (split at k <;> first
        | exact k.elim
        | exact ⟨k.1, mo_id hXY hY hQ k.2⟩
        | exact mo_id hXY hY hQ k
        | exact br_mo (mo_id hXY hY hQ) (mo_id hXY hY hQ) k
        | exact hQ _ _ k
        | exact ⟨k.1, hQ _ _ k.2⟩)
theorem mo_oDiv : OpMo (oDiv) := by
  intro X Y hXY hY m pc ls st h Q Q2 hQ k
  unfold oDiv at k ⊢
  first
    | exact mo_id hXY hY hQ k
    | (split at k <;> first
        | exact k.elim
        | exact ⟨k.1, mo_id hXY hY hQ k.2⟩
        | exact mo_id hXY hY hQ k
        | exact br_mo (mo_id hXY hY hQ) (mo_id hXY hY hQ) k
        | exact hQ _ _ k
        | exact ⟨k.1, hQ _ _ k.2⟩)
theorem mo_oRem : OpMo (oRem) := by
  intro X Y hXY hY m pc ls st h Q Q2 hQ k
  unfold oRem at k ⊢
  first
    | exact mo_id hXY hY hQ k
    | (split at k <;> first
        | exact k.elim
        | exact ⟨k.1, mo_id hXY hY hQ k.2⟩
        | exact mo_id hXY hY hQ k
        | exact br_mo (mo_id hXY hY hQ) (mo_id hXY hY hQ) k
        | exact hQ _ _ k
        | exact ⟨k.1, hQ _ _ k.2⟩)
theorem mo_oAnd : OpMo (oAnd) := by
  intro X Y hXY hY m pc ls st h Q Q2 hQ k
  unfold oAnd at k ⊢
  first
    | exact mo_id hXY hY hQ k
    | (split at k <;> first
        | exact k.elim
        | exact ⟨k.1, mo_id hXY hY hQ k.2⟩
        | exact mo_id hXY hY hQ k
        | exact br_mo (mo_id hXY hY hQ) (mo_id hXY hY hQ) k
        | exact hQ _ _ k
        | exact ⟨k.1, hQ _ _ k.2⟩)
theorem mo_oI2L : OpMo (oI2L) := by
  intro X Y hXY hY m pc ls st h Q Q2 hQ k
  unfold oI2L at k ⊢
  first
    | exact mo_id hXY hY hQ k
    | (split at k <;> first
        | exact k.elim
        | exact ⟨k.1, mo_id hXY hY hQ k.2⟩
        | exact mo_id hXY hY hQ k
        | exact br_mo (mo_id hXY hY hQ) (mo_id hXY hY hQ) k
        | exact hQ _ _ k
        | exact ⟨k.1, hQ _ _ k.2⟩)
theorem mo_oLAdd : OpMo (oLAdd) := by
  intro X Y hXY hY m pc ls st h Q Q2 hQ k
  unfold oLAdd at k ⊢
  first
    | exact mo_id hXY hY hQ k
    | (split at k <;> first
        | exact k.elim
        | exact ⟨k.1, mo_id hXY hY hQ k.2⟩
        | exact mo_id hXY hY hQ k
        | exact br_mo (mo_id hXY hY hQ) (mo_id hXY hY hQ) k
        | exact hQ _ _ k
        | exact ⟨k.1, hQ _ _ k.2⟩)
theorem mo_oLMul : OpMo (oLMul) := by
  intro X Y hXY hY m pc ls st h Q Q2 hQ k
  unfold oLMul at k ⊢
  first
    | exact mo_id hXY hY hQ k
    | (split at k <;> first
        | exact k.elim
        | exact ⟨k.1, mo_id hXY hY hQ k.2⟩
        | exact mo_id hXY hY hQ k
        | exact br_mo (mo_id hXY hY hQ) (mo_id hXY hY hQ) k
        | exact hQ _ _ k
        | exact ⟨k.1, hQ _ _ k.2⟩)
theorem mo_oLCmp : OpMo (oLCmp) := by
  intro X Y hXY hY m pc ls st h Q Q2 hQ k
  unfold oLCmp at k ⊢
  first
    | exact mo_id hXY hY hQ k
    | (split at k <;> first
        | exact k.elim
        | exact ⟨k.1, mo_id hXY hY hQ k.2⟩
        | exact mo_id hXY hY hQ k
        | exact br_mo (mo_id hXY hY hQ) (mo_id hXY hY hQ) k
        | exact hQ _ _ k
        | exact ⟨k.1, hQ _ _ k.2⟩)
theorem mo_oI2D : OpMo (oI2D) := by
  intro X Y hXY hY m pc ls st h Q Q2 hQ k
  unfold oI2D at k ⊢
  first
    | exact mo_id hXY hY hQ k
    | (split at k <;> first
        | exact k.elim
        | exact ⟨k.1, mo_id hXY hY hQ k.2⟩
        | exact mo_id hXY hY hQ k
        | exact br_mo (mo_id hXY hY hQ) (mo_id hXY hY hQ) k
        | exact hQ _ _ k
        | exact ⟨k.1, hQ _ _ k.2⟩)
theorem mo_oDDiv : OpMo (oDDiv) := by
  intro X Y hXY hY m pc ls st h Q Q2 hQ k
  unfold oDDiv at k ⊢
  first
    | exact mo_id hXY hY hQ k
    | (split at k <;> first
        | exact k.elim
        | exact ⟨k.1, mo_id hXY hY hQ k.2⟩
        | exact mo_id hXY hY hQ k
        | exact br_mo (mo_id hXY hY hQ) (mo_id hXY hY hQ) k
        | exact hQ _ _ k
        | exact ⟨k.1, hQ _ _ k.2⟩)
theorem mo_oDup : OpMo (oDup) := by
  intro X Y hXY hY m pc ls st h Q Q2 hQ k
  unfold oDup at k ⊢
  first
    | exact mo_id hXY hY hQ k
    | (split at k <;> first
        | exact k.elim
        | exact ⟨k.1, mo_id hXY hY hQ k.2⟩
        | exact mo_id hXY hY hQ k
        | exact br_mo (mo_id hXY hY hQ) (mo_id hXY hY hQ) k
        | exact hQ _ _ k
        | exact ⟨k.1, hQ _ _ k.2⟩)
theorem mo_oDupX1 : OpMo (oDupX1) := by
  intro X Y hXY hY m pc ls st h Q Q2 hQ k
  unfold oDupX1 at k ⊢
  first
    | exact mo_id hXY hY hQ k
    | (split at k <;> first
        | exact k.elim
        | exact ⟨k.1, mo_id hXY hY hQ k.2⟩
        | exact mo_id hXY hY hQ k
        | exact br_mo (mo_id hXY hY hQ) (mo_id hXY hY hQ) k
        | exact hQ _ _ k
        | exact ⟨k.1, hQ _ _ k.2⟩)
theorem mo_oDup2 : OpMo (oDup2) := by
  intro X Y hXY hY m pc ls st h Q Q2 hQ k
  unfold oDup2 at k ⊢
  first
    | exact mo_id hXY hY hQ k
    | (split at k <;> first
        | exact k.elim
        | exact ⟨k.1, mo_id hXY hY hQ k.2⟩
        | exact mo_id hXY hY hQ k
        | exact br_mo (mo_id hXY hY hQ) (mo_id hXY hY hQ) k
        | exact hQ _ _ k
        | exact ⟨k.1, hQ _ _ k.2⟩)
theorem mo_oALdJ : OpMo (oALdJ) := by
  intro X Y hXY hY m pc ls st h Q Q2 hQ k
  unfold oALdJ at k ⊢
  first
    | exact mo_id hXY hY hQ k
    | (split at k <;> first
        | exact k.elim
        | exact ⟨k.1, mo_id hXY hY hQ k.2⟩
        | exact mo_id hXY hY hQ k
        | exact br_mo (mo_id hXY hY hQ) (mo_id hXY hY hQ) k
        | exact hQ _ _ k
        | exact ⟨k.1, hQ _ _ k.2⟩)
theorem mo_oAStI : OpMo (oAStI) := by
  intro X Y hXY hY m pc ls st h Q Q2 hQ k
  unfold oAStI at k ⊢
  first
    | exact mo_id hXY hY hQ k
    | (split at k <;> first
        | exact k.elim
        | exact ⟨k.1, mo_id hXY hY hQ k.2⟩
        | exact mo_id hXY hY hQ k
        | exact br_mo (mo_id hXY hY hQ) (mo_id hXY hY hQ) k
        | exact hQ _ _ k
        | exact ⟨k.1, hQ _ _ k.2⟩)
theorem mo_oAStZ : OpMo (oAStZ) := by
  intro X Y hXY hY m pc ls st h Q Q2 hQ k
  unfold oAStZ at k ⊢
  first
    | exact mo_id hXY hY hQ k
    | (split at k <;> first
        | exact k.elim
        | exact ⟨k.1, mo_id hXY hY hQ k.2⟩
        | exact mo_id hXY hY hQ k
        | exact br_mo (mo_id hXY hY hQ) (mo_id hXY hY hQ) k
        | exact hQ _ _ k
        | exact ⟨k.1, hQ _ _ k.2⟩)
theorem mo_oAStJ : OpMo (oAStJ) := by
  intro X Y hXY hY m pc ls st h Q Q2 hQ k
  unfold oAStJ at k ⊢
  first
    | exact mo_id hXY hY hQ k
    | (split at k <;> first
        | exact k.elim
        | exact ⟨k.1, mo_id hXY hY hQ k.2⟩
        | exact mo_id hXY hY hQ k
        | exact br_mo (mo_id hXY hY hQ) (mo_id hXY hY hQ) k
        | exact hQ _ _ k
        | exact ⟨k.1, hQ _ _ k.2⟩)
theorem mo_oMax : OpMo (oMax) := by
  intro X Y hXY hY m pc ls st h Q Q2 hQ k
  unfold oMax at k ⊢
  first
    | exact mo_id hXY hY hQ k
    | (split at k <;> first
        | exact k.elim
        | exact ⟨k.1, mo_id hXY hY hQ k.2⟩
        | exact mo_id hXY hY hQ k
        | exact br_mo (mo_id hXY hY hQ) (mo_id hXY hY hQ) k
        | exact hQ _ _ k
        | exact ⟨k.1, hQ _ _ k.2⟩)
theorem mo_oMin : OpMo (oMin) := by
  intro X Y hXY hY m pc ls st h Q Q2 hQ k
  unfold oMin at k ⊢
  first
    | exact mo_id hXY hY hQ k
    | (split at k <;> first
        | exact k.elim
        | exact ⟨k.1, mo_id hXY hY hQ k.2⟩
        | exact mo_id hXY hY hQ k
        | exact br_mo (mo_id hXY hY hQ) (mo_id hXY hY hQ) k
        | exact hQ _ _ k
        | exact ⟨k.1, hQ _ _ k.2⟩)
theorem mo_oAbs : OpMo (oAbs) := by
  intro X Y hXY hY m pc ls st h Q Q2 hQ k
  unfold oAbs at k ⊢
  first
    | exact mo_id hXY hY hQ k
    | (split at k <;> first
        | exact k.elim
        | exact ⟨k.1, mo_id hXY hY hQ k.2⟩
        | exact mo_id hXY hY hQ k
        | exact br_mo (mo_id hXY hY hQ) (mo_id hXY hY hQ) k
        | exact hQ _ _ k
        | exact ⟨k.1, hQ _ _ k.2⟩)
theorem mo_oCpy : OpMo (oCpy) := by
  intro X Y hXY hY m pc ls st h Q Q2 hQ k
  unfold oCpy at k ⊢
  first
    | exact mo_id hXY hY hQ k
    | (split at k <;> first
        | exact k.elim
        | exact ⟨k.1, mo_id hXY hY hQ k.2⟩
        | exact mo_id hXY hY hQ k
        | exact br_mo (mo_id hXY hY hQ) (mo_id hXY hY hQ) k
        | exact hQ _ _ k
        | exact ⟨k.1, hQ _ _ k.2⟩)
theorem mo_oObj : OpMo (oObj) := by
  intro X Y hXY hY m pc ls st h Q Q2 hQ k
  unfold oObj at k ⊢
  first
    | exact mo_id hXY hY hQ k
    | (split at k <;> first
        | exact k.elim
        | exact ⟨k.1, mo_id hXY hY hQ k.2⟩
        | exact mo_id hXY hY hQ k
        | exact br_mo (mo_id hXY hY hQ) (mo_id hXY hY hQ) k
        | exact hQ _ _ k
        | exact ⟨k.1, hQ _ _ k.2⟩)
theorem mo_oDCmp (c : CmpOp) : OpMo (oDCmp c) := by
  intro X Y hXY hY m pc ls st h Q Q2 hQ k
  unfold oDCmp at k ⊢
  first
    | exact mo_id hXY hY hQ k
    | (split at k <;> first
        | exact k.elim
        | exact ⟨k.1, mo_id hXY hY hQ k.2⟩
        | exact mo_id hXY hY hQ k
        | exact br_mo (mo_id hXY hY hQ) (mo_id hXY hY hQ) k
        | exact hQ _ _ k
        | exact ⟨k.1, hQ _ _ k.2⟩)
theorem mo_oZeq (t : Nat) : OpMo (oZeq t) := by
  intro X Y hXY hY m pc ls st h Q Q2 hQ k
  unfold oZeq at k ⊢
  first
    | exact mo_id hXY hY hQ k
    | (split at k <;> first
        | exact k.elim
        | exact ⟨k.1, mo_id hXY hY hQ k.2⟩
        | exact mo_id hXY hY hQ k
        | exact br_mo (mo_id hXY hY hQ) (mo_id hXY hY hQ) k
        | exact hQ _ _ k
        | exact ⟨k.1, hQ _ _ k.2⟩)
theorem mo_oZne (t : Nat) : OpMo (oZne t) := by
  intro X Y hXY hY m pc ls st h Q Q2 hQ k
  unfold oZne at k ⊢
  first
    | exact mo_id hXY hY hQ k
    | (split at k <;> first
        | exact k.elim
        | exact ⟨k.1, mo_id hXY hY hQ k.2⟩
        | exact mo_id hXY hY hQ k
        | exact br_mo (mo_id hXY hY hQ) (mo_id hXY hY hQ) k
        | exact hQ _ _ k
        | exact ⟨k.1, hQ _ _ k.2⟩)
theorem mo_oZlt (t : Nat) : OpMo (oZlt t) := by
  intro X Y hXY hY m pc ls st h Q Q2 hQ k
  unfold oZlt at k ⊢
  first
    | exact mo_id hXY hY hQ k
    | (split at k <;> first
        | exact k.elim
        | exact ⟨k.1, mo_id hXY hY hQ k.2⟩
        | exact mo_id hXY hY hQ k
        | exact br_mo (mo_id hXY hY hQ) (mo_id hXY hY hQ) k
        | exact hQ _ _ k
        | exact ⟨k.1, hQ _ _ k.2⟩)
theorem mo_oZge (t : Nat) : OpMo (oZge t) := by
  intro X Y hXY hY m pc ls st h Q Q2 hQ k
  unfold oZge at k ⊢
  first
    | exact mo_id hXY hY hQ k
    | (split at k <;> first
        | exact k.elim
        | exact ⟨k.1, mo_id hXY hY hQ k.2⟩
        | exact mo_id hXY hY hQ k
        | exact br_mo (mo_id hXY hY hQ) (mo_id hXY hY hQ) k
        | exact hQ _ _ k
        | exact ⟨k.1, hQ _ _ k.2⟩)
theorem mo_oZgt (t : Nat) : OpMo (oZgt t) := by
  intro X Y hXY hY m pc ls st h Q Q2 hQ k
  unfold oZgt at k ⊢
  first
    | exact mo_id hXY hY hQ k
    | (split at k <;> first
        | exact k.elim
        | exact ⟨k.1, mo_id hXY hY hQ k.2⟩
        | exact mo_id hXY hY hQ k
        | exact br_mo (mo_id hXY hY hQ) (mo_id hXY hY hQ) k
        | exact hQ _ _ k
        | exact ⟨k.1, hQ _ _ k.2⟩)
theorem mo_oZle (t : Nat) : OpMo (oZle t) := by
  intro X Y hXY hY m pc ls st h Q Q2 hQ k
  unfold oZle at k ⊢
  first
    | exact mo_id hXY hY hQ k
    | (split at k <;> first
        | exact k.elim
        | exact ⟨k.1, mo_id hXY hY hQ k.2⟩
        | exact mo_id hXY hY hQ k
        | exact br_mo (mo_id hXY hY hQ) (mo_id hXY hY hQ) k
        | exact hQ _ _ k
        | exact ⟨k.1, hQ _ _ k.2⟩)
theorem mo_oCeq (t : Nat) : OpMo (oCeq t) := by
  intro X Y hXY hY m pc ls st h Q Q2 hQ k
  unfold oCeq at k ⊢
  first
    | exact mo_id hXY hY hQ k
    | (split at k <;> first
        | exact k.elim
        | exact ⟨k.1, mo_id hXY hY hQ k.2⟩
        | exact mo_id hXY hY hQ k
        | exact br_mo (mo_id hXY hY hQ) (mo_id hXY hY hQ) k
        | exact hQ _ _ k
        | exact ⟨k.1, hQ _ _ k.2⟩)
theorem mo_oCne (t : Nat) : OpMo (oCne t) := by
  intro X Y hXY hY m pc ls st h Q Q2 hQ k
  unfold oCne at k ⊢
  first
    | exact mo_id hXY hY hQ k
    | (split at k <;> first
        | exact k.elim
        | exact ⟨k.1, mo_id hXY hY hQ k.2⟩
        | exact mo_id hXY hY hQ k
        | exact br_mo (mo_id hXY hY hQ) (mo_id hXY hY hQ) k
        | exact hQ _ _ k
        | exact ⟨k.1, hQ _ _ k.2⟩)
theorem mo_oClt (t : Nat) : OpMo (oClt t) := by
  intro X Y hXY hY m pc ls st h Q Q2 hQ k
  unfold oClt at k ⊢
  first
    | exact mo_id hXY hY hQ k
    | (split at k <;> first
        | exact k.elim
        | exact ⟨k.1, mo_id hXY hY hQ k.2⟩
        | exact mo_id hXY hY hQ k
        | exact br_mo (mo_id hXY hY hQ) (mo_id hXY hY hQ) k
        | exact hQ _ _ k
        | exact ⟨k.1, hQ _ _ k.2⟩)
theorem mo_oCge (t : Nat) : OpMo (oCge t) := by
  intro X Y hXY hY m pc ls st h Q Q2 hQ k
  unfold oCge at k ⊢
  first
    | exact mo_id hXY hY hQ k
    | (split at k <;> first
        | exact k.elim
        | exact ⟨k.1, mo_id hXY hY hQ k.2⟩
        | exact mo_id hXY hY hQ k
        | exact br_mo (mo_id hXY hY hQ) (mo_id hXY hY hQ) k
        | exact hQ _ _ k
        | exact ⟨k.1, hQ _ _ k.2⟩)
theorem mo_oCgt (t : Nat) : OpMo (oCgt t) := by
  intro X Y hXY hY m pc ls st h Q Q2 hQ k
  unfold oCgt at k ⊢
  first
    | exact mo_id hXY hY hQ k
    | (split at k <;> first
        | exact k.elim
        | exact ⟨k.1, mo_id hXY hY hQ k.2⟩
        | exact mo_id hXY hY hQ k
        | exact br_mo (mo_id hXY hY hQ) (mo_id hXY hY hQ) k
        | exact hQ _ _ k
        | exact ⟨k.1, hQ _ _ k.2⟩)
theorem mo_oCle (t : Nat) : OpMo (oCle t) := by
  intro X Y hXY hY m pc ls st h Q Q2 hQ k
  unfold oCle at k ⊢
  first
    | exact mo_id hXY hY hQ k
    | (split at k <;> first
        | exact k.elim
        | exact ⟨k.1, mo_id hXY hY hQ k.2⟩
        | exact mo_id hXY hY hQ k
        | exact br_mo (mo_id hXY hY hQ) (mo_id hXY hY hQ) k
        | exact hQ _ _ k
        | exact ⟨k.1, hQ _ _ k.2⟩)
theorem mo_oNul (t : Nat) : OpMo (oNul t) := by
  intro X Y hXY hY m pc ls st h Q Q2 hQ k
  unfold oNul at k ⊢
  first
    | exact mo_id hXY hY hQ k
    | (split at k <;> first
        | exact k.elim
        | exact ⟨k.1, mo_id hXY hY hQ k.2⟩
        | exact mo_id hXY hY hQ k
        | exact br_mo (mo_id hXY hY hQ) (mo_id hXY hY hQ) k
        | exact hQ _ _ k
        | exact ⟨k.1, hQ _ _ k.2⟩)
theorem mo_oNNul (t : Nat) : OpMo (oNNul t) := by
  intro X Y hXY hY m pc ls st h Q Q2 hQ k
  unfold oNNul at k ⊢
  first
    | exact mo_id hXY hY hQ k
    | (split at k <;> first
        | exact k.elim
        | exact ⟨k.1, mo_id hXY hY hQ k.2⟩
        | exact mo_id hXY hY hQ k
        | exact br_mo (mo_id hXY hY hQ) (mo_id hXY hY hQ) k
        | exact hQ _ _ k
        | exact ⟨k.1, hQ _ _ k.2⟩)
theorem mo_oGoto (t : Nat) : OpMo (oGoto t) := by
  intro X Y hXY hY m pc ls st h Q Q2 hQ k
  unfold oGoto at k ⊢
  first
    | exact mo_id hXY hY hQ k
    | (split at k <;> first
        | exact k.elim
        | exact ⟨k.1, mo_id hXY hY hQ k.2⟩
        | exact mo_id hXY hY hQ k
        | exact br_mo (mo_id hXY hY hQ) (mo_id hXY hY hQ) k
        | exact hQ _ _ k
        | exact ⟨k.1, hQ _ _ k.2⟩)
theorem mo_oGetI (c k : Nat) : OpMo (oGetI c k) := by
  intro X Y hXY hY m pc ls st h Q Q2 hQ k
  unfold oGetI at k ⊢
  first
    | exact mo_id hXY hY hQ k
    | (split at k <;> first
        | exact k.elim
        | exact ⟨k.1, mo_id hXY hY hQ k.2⟩
        | exact mo_id hXY hY hQ k
        | exact br_mo (mo_id hXY hY hQ) (mo_id hXY hY hQ) k
        | exact hQ _ _ k
        | exact ⟨k.1, hQ _ _ k.2⟩)
theorem mo_oGetR (c k : Nat) : OpMo (oGetR c k) := by
  intro X Y hXY hY m pc ls st h Q Q2 hQ k
  unfold oGetR at k ⊢
  first
    | exact mo_id hXY hY hQ k
    | (split at k <;> first
        | exact k.elim
        | exact ⟨k.1, mo_id hXY hY hQ k.2⟩
        | exact mo_id hXY hY hQ k
        | exact br_mo (mo_id hXY hY hQ) (mo_id hXY hY hQ) k
        | exact hQ _ _ k
        | exact ⟨k.1, hQ _ _ k.2⟩)
theorem mo_oPutI (c k : Nat) : OpMo (oPutI c k) := by
  intro X Y hXY hY m pc ls st h Q Q2 hQ k
  unfold oPutI at k ⊢
  first
    | exact mo_id hXY hY hQ k
    | (split at k <;> first
        | exact k.elim
        | exact ⟨k.1, mo_id hXY hY hQ k.2⟩
        | exact mo_id hXY hY hQ k
        | exact br_mo (mo_id hXY hY hQ) (mo_id hXY hY hQ) k
        | exact hQ _ _ k
        | exact ⟨k.1, hQ _ _ k.2⟩)
theorem mo_oPutZ (c k : Nat) : OpMo (oPutZ c k) := by
  intro X Y hXY hY m pc ls st h Q Q2 hQ k
  unfold oPutZ at k ⊢
  first
    | exact mo_id hXY hY hQ k
    | (split at k <;> first
        | exact k.elim
        | exact ⟨k.1, mo_id hXY hY hQ k.2⟩
        | exact mo_id hXY hY hQ k
        | exact br_mo (mo_id hXY hY hQ) (mo_id hXY hY hQ) k
        | exact hQ _ _ k
        | exact ⟨k.1, hQ _ _ k.2⟩)
theorem mo_oPutR (c k : Nat) : OpMo (oPutR c k) := by
  intro X Y hXY hY m pc ls st h Q Q2 hQ k
  unfold oPutR at k ⊢
  first
    | exact mo_id hXY hY hQ k
    | (split at k <;> first
        | exact k.elim
        | exact ⟨k.1, mo_id hXY hY hQ k.2⟩
        | exact mo_id hXY hY hQ k
        | exact br_mo (mo_id hXY hY hQ) (mo_id hXY hY hQ) k
        | exact hQ _ _ k
        | exact ⟨k.1, hQ _ _ k.2⟩)
theorem mo_oALdI (c : Nat) : OpMo (oALdI c) := by
  intro X Y hXY hY m pc ls st h Q Q2 hQ k
  unfold oALdI at k ⊢
  first
    | exact mo_id hXY hY hQ k
    | (split at k <;> first
        | exact k.elim
        | exact ⟨k.1, mo_id hXY hY hQ k.2⟩
        | exact mo_id hXY hY hQ k
        | exact br_mo (mo_id hXY hY hQ) (mo_id hXY hY hQ) k
        | exact hQ _ _ k
        | exact ⟨k.1, hQ _ _ k.2⟩)
theorem mo_oALdR (c : Nat) : OpMo (oALdR c) := by
  intro X Y hXY hY m pc ls st h Q Q2 hQ k
  unfold oALdR at k ⊢
  first
    | exact mo_id hXY hY hQ k
    | (split at k <;> first
        | exact k.elim
        | exact ⟨k.1, mo_id hXY hY hQ k.2⟩
        | exact mo_id hXY hY hQ k
        | exact br_mo (mo_id hXY hY hQ) (mo_id hXY hY hQ) k
        | exact hQ _ _ k
        | exact ⟨k.1, hQ _ _ k.2⟩)
theorem mo_oALen (c : Nat) : OpMo (oALen c) := by
  intro X Y hXY hY m pc ls st h Q Q2 hQ k
  unfold oALen at k ⊢
  first
    | exact mo_id hXY hY hQ k
    | (split at k <;> first
        | exact k.elim
        | exact ⟨k.1, mo_id hXY hY hQ k.2⟩
        | exact mo_id hXY hY hQ k
        | exact br_mo (mo_id hXY hY hQ) (mo_id hXY hY hQ) k
        | exact hQ _ _ k
        | exact ⟨k.1, hQ _ _ k.2⟩)
theorem mo_oAStR (c e : Nat) : OpMo (oAStR c e) := by
  intro X Y hXY hY m pc ls st h Q Q2 hQ k
  unfold oAStR at k ⊢
  first
    | exact mo_id hXY hY hQ k
    | (split at k <;> first
        | exact k.elim
        | exact ⟨k.1, mo_id hXY hY hQ k.2⟩
        | exact mo_id hXY hY hQ k
        | exact br_mo (mo_id hXY hY hQ) (mo_id hXY hY hQ) k
        | exact hQ _ _ k
        | exact ⟨k.1, hQ _ _ k.2⟩)
theorem mo_oRetI : OpMo (oRetI) := by
  intro X Y hXY hY m pc ls st h Q Q2 hQ k
  unfold oRetI at k ⊢
  first
    | exact mo_id hXY hY hQ k
    | (split at k <;> first
        | exact k.elim
        | exact ⟨k.1, mo_id hXY hY hQ k.2⟩
        | exact mo_id hXY hY hQ k
        | exact br_mo (mo_id hXY hY hQ) (mo_id hXY hY hQ) k
        | exact hQ _ _ k
        | exact ⟨k.1, hQ _ _ k.2⟩)
theorem mo_oRetZ : OpMo (oRetZ) := by
  intro X Y hXY hY m pc ls st h Q Q2 hQ k
  unfold oRetZ at k ⊢
  first
    | exact mo_id hXY hY hQ k
    | (split at k <;> first
        | exact k.elim
        | exact ⟨k.1, mo_id hXY hY hQ k.2⟩
        | exact mo_id hXY hY hQ k
        | exact br_mo (mo_id hXY hY hQ) (mo_id hXY hY hQ) k
        | exact hQ _ _ k
        | exact ⟨k.1, hQ _ _ k.2⟩)
theorem mo_oRetL : OpMo (oRetL) := by
  intro X Y hXY hY m pc ls st h Q Q2 hQ k
  unfold oRetL at k ⊢
  first
    | exact mo_id hXY hY hQ k
    | (split at k <;> first
        | exact k.elim
        | exact ⟨k.1, mo_id hXY hY hQ k.2⟩
        | exact mo_id hXY hY hQ k
        | exact br_mo (mo_id hXY hY hQ) (mo_id hXY hY hQ) k
        | exact hQ _ _ k
        | exact ⟨k.1, hQ _ _ k.2⟩)
theorem mo_oRetD : OpMo (oRetD) := by
  intro X Y hXY hY m pc ls st h Q Q2 hQ k
  unfold oRetD at k ⊢
  first
    | exact mo_id hXY hY hQ k
    | (split at k <;> first
        | exact k.elim
        | exact ⟨k.1, mo_id hXY hY hQ k.2⟩
        | exact mo_id hXY hY hQ k
        | exact br_mo (mo_id hXY hY hQ) (mo_id hXY hY hQ) k
        | exact hQ _ _ k
        | exact ⟨k.1, hQ _ _ k.2⟩)
theorem mo_oRetR : OpMo (oRetR) := by
  intro X Y hXY hY m pc ls st h Q Q2 hQ k
  unfold oRetR at k ⊢
  first
    | exact mo_id hXY hY hQ k
    | (split at k <;> first
        | exact k.elim
        | exact ⟨k.1, mo_id hXY hY hQ k.2⟩
        | exact mo_id hXY hY hQ k
        | exact br_mo (mo_id hXY hY hQ) (mo_id hXY hY hQ) k
        | exact hQ _ _ k
        | exact ⟨k.1, hQ _ _ k.2⟩)
theorem mo_oRetV : OpMo (oRetV) := by
  intro X Y hXY hY m pc ls st h Q Q2 hQ k
  unfold oRetV at k ⊢
  first
    | exact mo_id hXY hY hQ k
    | (split at k <;> first
        | exact k.elim
        | exact ⟨k.1, mo_id hXY hY hQ k.2⟩
        | exact mo_id hXY hY hQ k
        | exact br_mo (mo_id hXY hY hQ) (mo_id hXY hY hQ) k
        | exact hQ _ _ k
        | exact ⟨k.1, hQ _ _ k.2⟩)
theorem mo_oFail : OpMo oFail := fun _ _ _ _ _ _ _ _ _ _ _ _ k => k
theorem mo_oThr (e : Nat) : OpMo (oThr e) := fun _ _ _ _ _ _ _ _ _ _ _ hQ k => ⟨k.1, hQ _ _ k.2⟩
theorem mo_oNew (c n : Nat) : OpMo (oNew c n) := fun _ _ hXY hY _ _ _ _ _ _ _ hQ k => ⟨k.1, fun a ha => mo_id hXY hY hQ (k.2 a ha)⟩
theorem mo_oNewA (c len : Nat) : OpMo (oNewA c len) := by
  intro X Y hXY hY m pc ls st h Q Q2 hQ k
  unfold oNewA at k ⊢
  split at k
  · exact ⟨k.1, fun a ha => mo_id hXY hY hQ (k.2 a ha)⟩
  · exact k.elim
theorem mo_oNew2 : OpMo oNew2 := by
  intro X Y hXY hY m pc ls st h Q Q2 hQ k
  unfold oNew2 at k ⊢
  split at k
  · exact ⟨k.1, fun q r h1 h2 h3 => mo_id hXY hY hQ (k.2 q r h1 h2 h3)⟩
  · exact k.elim
theorem mo_oSw (lo : Int) (ts : List Nat) (d : Nat) : OpMo (oSw lo ts d) := by
  intro X Y hXY hY m pc ls st h Q Q2 hQ k
  unfold oSw at k ⊢
  split at k
  · exact ⟨fun e => mo_id hXY hY hQ (k.1 e), swA_mo (fun t => mo_id hXY hY hQ) _ _ _ k.2⟩
  · exact k.elim
theorem mo_oCallS (m2 n maxL : Nat) (hs : List (Nat × Nat)) : OpMo (oCallS m2 n maxL hs) := by
  intro X Y hXY hY m pc ls st h Q Q2 hQ k
  unfold oCallS at k ⊢
  exact ⟨k.1, k.2.1, k.2.2.1, mo_id hXY hY (kont_mo hXY hY hQ) k.2.2.2⟩
theorem mo_oCallV (m2 n maxL c : Nat) (hs : List (Nat × Nat)) : OpMo (oCallV m2 n maxL c hs) := by
  intro X Y hXY hY m pc ls st h Q Q2 hQ k
  unfold oCallV at k ⊢
  revert k
  generalize st.drop n = dr
  intro k
  split at k
  · exact ⟨k.1, k.2.1, k.2.2.1, k.2.2.2.1, mo_id hXY hY (kont_mo hXY hY hQ) k.2.2.2.2⟩
  · exact k.elim
/-- the least closure under a program's instructions -/
def WPo (op : Nat → Nat → Op1) : Zx := fun m pc ls st h Q => ∀ X : Zx, ZxMo X → (∀ m pc ls st h Q, op m pc X m pc ls st h Q → X m pc ls st h Q) → X m pc ls st h Q
theorem WPo_mo (op : Nat → Nat → Op1) : ZxMo (WPo op) := fun _ _ _ _ _ _ _ hQ k X hX hc => hX _ _ _ _ _ _ _ hQ (k X hX hc)
theorem WPo_fold {op : Nat → Nat → Op1} (hm : ∀ m pc, OpMo (op m pc)) {m pc : Nat} {ls : Zl} {st : List Zv} {h : Zh} {Q : Zp} (k : op m pc (WPo op) m pc ls st h Q) : WPo op m pc ls st h Q := fun X hX hc =>
  hc _ _ _ _ _ _ (hm m pc _ _ (fun _ _ _ _ _ _ z => z X hX hc) hX _ _ _ _ _ _ _ (fun _ _ z => z) k)
theorem WPo_unfold {op : Nat → Nat → Op1} (hm : ∀ m pc, OpMo (op m pc)) {m pc : Nat} {ls : Zl} {st : List Zv} {h : Zh} {Q : Zp} (k : WPo op m pc ls st h Q) : op m pc (WPo op) m pc ls st h Q := by
  refine k (fun m pc ls st h Q => op m pc (WPo op) m pc ls st h Q) ?_ ?_
  · intro m pc ls st h Q Q2 hQ z
    exact hm m pc _ _ (fun _ _ _ _ _ _ y => y) (WPo_mo op) _ _ _ _ _ _ _ hQ z
  · intro m pc ls st h Q z
    exact hm m pc _ _ (fun _ _ _ _ _ _ y => WPo_fold hm y) (WPo_mo op) _ _ _ _ _ _ _ (fun _ _ y => y) z
theorem WPo_eq {op : Nat → Nat → Op1} (hm : ∀ m pc, OpMo (op m pc)) (m pc : Nat) (ls : Zl) (st : List Zv) (h : Zh) (Q : Zp) : WPo op m pc ls st h Q = op m pc (WPo op) m pc ls st h Q := propext ⟨WPo_unfold hm, WPo_fold hm⟩
end
section
/-! SOUNDNESS, the base: what the abstract machine's state is in the JVM model. Md: what is known of each method; kinds 1..7 are the classes of vwCl in its order. -/
theorem z_ofI {x : Int} (h : inR x) : (Int32.ofInt x).toInt = x := Int32.toInt_ofInt_of_le (by have := h.1; omega) (by have := h.2; omega)
theorem z_cl {x : Int} (h : inR x) : (Int32.ofInt x).toNatClampNeg = x.toNat := by
  show (Int32.ofInt x).toInt.toNat = _
  rw [z_ofI h]
theorem z_lt {x y : Int} (hx : inR x) (hy : inR y) : Int32.ofInt x < Int32.ofInt y ↔ x < y := by rw [Int32.lt_iff_toInt_lt, z_ofI hx, z_ofI hy]
theorem z_le {x y : Int} (hx : inR x) (hy : inR y) : Int32.ofInt x ≤ Int32.ofInt y ↔ x ≤ y := by rw [Int32.le_iff_toInt_le, z_ofI hx, z_ofI hy]
theorem z_eq {x y : Int} (hx : inR x) (hy : inR y) : Int32.ofInt x = Int32.ofInt y ↔ x = y := ⟨fun h => by have h2 := congrArg Int32.toInt h; rwa [z_ofI hx, z_ofI hy] at h2, fun h => by rw [h]⟩
theorem z_0 : inR 0 := ⟨by decide, by decide⟩
theorem z_1 : inR 1 := ⟨by decide, by decide⟩
theorem z_0e : (0 : Int32) = Int32.ofInt 0 := rfl
theorem z_in {i : Int} {n : Nat} (hi : inR i) (h0 : 0 ≤ i) (h1 : i < n) : vp_in (Int32.ofInt i) n := by
  intro h
  rcases h with h | h
  · rw [z_0e, z_lt hi z_0] at h; omega
  · rw [z_cl hi] at h; omega
theorem z_nneg {i : Int} (hi : inR i) (h0 : 0 ≤ i) : ¬ Int32.ofInt i < 0 := by rw [z_0e, z_lt hi z_0]; omega
/-- what the locals are known to hold -/
def lh (lsC : Array Slot) (n : Nat) (ls : Zl) : Prop := lsC.size = n ∧ ls.length = n ∧ lv_wf lsC ∧ (∀ (i : Nat) (v : Zv), ls[i]? = some (some v) → lsC[i]? = some (.val (cz v)) ∧ okz v)
def prs (i : Nat) (ls : Zl) : List (Nat × Value) := match ls with
  | [] => []
  | none :: r => prs (i + 1) r
  | some v :: r => (i, cz v) :: prs (i + 1) r
theorem prs_mem : ∀ (ls : Zl) (i : Nat) (q : Nat × Value), q ∈ prs i ls ↔ ∃ (k : Nat) (v : Zv), ls[k]? = some (some v) ∧ q = (i + k, cz v)
  | [], i, q => by simp [prs]
  | none :: r, i, q => by
    rw [show prs i (none :: r) = prs (i + 1) r from rfl, prs_mem r (i + 1) q]
    constructor
    · rintro ⟨k, v, h, e⟩; exact ⟨k + 1, v, h, by rw [e]; congr 1; omega⟩
    · rintro ⟨k, v, h, e⟩
      cases k with
      | zero => simp at h
      | succ k => exact ⟨k, v, by simpa using h, by rw [e]; congr 1; omega⟩
  | some w :: r, i, q => by
    rw [show prs i (some w :: r) = (i, cz w) :: prs (i + 1) r from rfl, List.mem_cons, prs_mem r (i + 1) q]
    constructor
    · rintro (e | ⟨k, v, h, e⟩)
      · exact ⟨0, w, rfl, e⟩
      · exact ⟨k + 1, v, h, by rw [e]; congr 1; omega⟩
    · rintro ⟨k, v, h, e⟩
      cases k with
      | zero => simp at h; subst h; exact Or.inl e
      | succ k => exact Or.inr ⟨k, v, by simpa using h, by rw [e]; congr 1; omega⟩
theorem lh.has {lsC : Array Slot} {n : Nat} {ls : Zl} (h : lh lsC n ls) : lv_has lsC n (prs 0 ls) := by
  refine ⟨h.1, h.2.2.1, fun q hq => ?_⟩
  obtain ⟨k, v, e, rfl⟩ := (prs_mem ls 0 q).mp hq
  rw [show (0 + k, cz v).1 = k from Nat.zero_add k]
  exact (h.2.2.2 k v e).1
theorem ctz_cz (v : Zv) : (cz v).category = ctz v := by
  match v with
  | .inl _ => rfl
  | .inr (.inl _) => rfl
  | .inr (.inr (.inl _)) => rfl
  | .inr (.inr (.inr none)) => rfl
  | .inr (.inr (.inr (some _))) => rfl
theorem clr_len (ls : Zl) (k : Nat) : (clr ls k).length = ls.length := by
  unfold clr
  split
  · rfl
  · split <;> simp
theorem clr_get {ls : Zl} {k j : Nat} {w : Zv} (h : (clr ls k)[j]? = some (some w)) : ls[j]? = some (some w) ∧ ¬ (j + 1 = k ∧ ctz w = 2) := by
  unfold clr at h
  split at h
  · exact ⟨h, fun e => by omega⟩
  · next i =>
    split at h
    · next x e =>
      by_cases q : i = j
      · subst q; rw [List.getElem?_set] at h; simp at h
      · rw [List.getElem?_set_ne q] at h; exact ⟨h, fun z => q (by omega)⟩
    · next x e =>
      by_cases q : i = j
      · subst q; rw [List.getElem?_set] at h; simp at h
      · rw [List.getElem?_set_ne q] at h; exact ⟨h, fun z => q (by omega)⟩
    · next n1 n2 =>
      refine ⟨h, fun z => ?_⟩
      have e : j = i := by omega
      subst e
      match w, z.2 with
      | .inr (.inl x), _ => exact n1 x h
      | .inr (.inr (.inl x)), _ => exact n2 x h
theorem lh_st1 {lsC ls' : Array Slot} {n i : Nat} {ls : Zl} {v : Zv} (h : lh lsC n ls) (hv : okz v) (h2 : lv_has ls' n ((i, cz v) :: (prs 0 ls).filter (fun q => !(q.1 == i) && !(q.1 + 1 == i && q.2.category == 2)))) : lh ls' n (st1 ls i v) := by
  refine ⟨h2.1, by unfold st1; rw [List.length_set, clr_len]; exact h.2.1, h2.2.1, fun j w hj => ?_⟩
  unfold st1 at hj
  by_cases q : i = j
  · subst q
    rw [List.getElem?_set] at hj
    rw [if_pos rfl] at hj
    split at hj
    · cases hj; exact ⟨h2.2.2 _ List.mem_cons_self, hv⟩
    · cases hj
  · rw [List.getElem?_set_ne q] at hj
    obtain ⟨a, b⟩ := clr_get hj
    refine ⟨h2.2.2 (j, cz w) (List.mem_cons_of_mem _ (List.mem_filter.mpr ⟨(prs_mem ls 0 _).mpr ⟨j, w, a, by rw [Nat.zero_add]⟩, ?_⟩)), (h.2.2.2 j w a).2⟩
    rw [ctz_cz]
    have q2 : j ≠ i := fun e => q e.symm
    have b2 : ¬ (j + 1 = i ∧ ctz w = 2) := b
    simp only [Bool.and_eq_true, Bool.not_eq_true', beq_eq_false_iff_ne, ne_eq, Bool.and_eq_false_iff]
    refine ⟨q2, ?_⟩
    by_cases z : j + 1 = i
    · exact Or.inr (fun z2 => b2 ⟨z, z2⟩)
    · exact Or.inl z
theorem lh_st2 {lsC ls' : Array Slot} {n i : Nat} {ls : Zl} {v : Zv} (h : lh lsC n ls) (hv : okz v) (h2 : lv_has ls' n ((i, cz v) :: (prs 0 ls).filter (fun q => !(q.1 == i) && (!(q.1 == i + 1) && !(q.1 + 1 == i && q.2.category == 2))))) : lh ls' n (st2 ls i v) := by
  refine ⟨h2.1, by unfold st2; rw [List.length_set, List.length_set, clr_len]; exact h.2.1, h2.2.1, fun j w hj => ?_⟩
  unfold st2 at hj
  by_cases q3 : i + 1 = j
  · subst q3
    rw [List.getElem?_set] at hj
    rw [if_pos rfl] at hj
    split at hj <;> cases hj
  rw [List.getElem?_set_ne q3] at hj
  by_cases q : i = j
  · subst q
    rw [List.getElem?_set] at hj
    rw [if_pos rfl] at hj
    split at hj
    · cases hj; exact ⟨h2.2.2 _ List.mem_cons_self, hv⟩
    · cases hj
  · rw [List.getElem?_set_ne q] at hj
    obtain ⟨a, b⟩ := clr_get hj
    refine ⟨h2.2.2 (j, cz w) (List.mem_cons_of_mem _ (List.mem_filter.mpr ⟨(prs_mem ls 0 _).mpr ⟨j, w, a, by rw [Nat.zero_add]⟩, ?_⟩)), (h.2.2.2 j w a).2⟩
    rw [ctz_cz]
    have q2 : j ≠ i := fun e => q e.symm
    have q4 : j ≠ i + 1 := fun e => q3 e.symm
    have b2 : ¬ (j + 1 = i ∧ ctz w = 2) := b
    simp only [Bool.and_eq_true, Bool.not_eq_true', beq_eq_false_iff_ne, ne_eq, Bool.and_eq_false_iff]
    refine ⟨q2, q4, ?_⟩
    by_cases z : j + 1 = i
    · exact Or.inr (fun z2 => b2 ⟨z, z2⟩)
    · exact Or.inl z
theorem lh_get {lsC : Array Slot} {n : Nat} {ls : Zl} (h : lh lsC n ls) {i : Nat} {v : Zv} (e : ls[i]? = some (some v)) : lsC[i]? = some (.val (cz v)) ∧ okz v := h.2.2.2 i v e
theorem lh_lt {lsC : Array Slot} {n : Nat} {ls : Zl} (h : lh lsC n ls) {i : Nat} {v : Option Zv} (e : ls[i]? = some v) : i < n := by rw [← h.2.1]; exact (List.getElem?_eq_some_iff.mp e).1
/-- a method: its class, its name, its bytes, its locals, its type, its words, its handlers, the frames and the words of locals that it asks for -/
abbrev MdT : Type := String × MethodName × ByteArray × Nat × Option FieldType × List Cond × List (Nat × Nat × Nat × Nat) × Nat × Nat
def mOwn (M : MdT) : String := M.1
def mNam (M : MdT) : MethodName := M.2.1
def mCod (M : MdT) : ByteArray := M.2.2.1
def mMax (M : MdT) : Nat := M.2.2.2.1
def mRet (M : MdT) : Option FieldType := M.2.2.2.2.1
def mWs (M : MdT) : List Cond := M.2.2.2.2.2.1
def mHH (M : MdT) : List (Nat × Nat × Nat × Nat) := M.2.2.2.2.2.2.1
def mFr (M : MdT) : Nat := M.2.2.2.2.2.2.2.1
def mLo (M : MdT) : Nat := M.2.2.2.2.2.2.2.2
/-- the room of a method, where c0 cells and s0 slots are gone -/
def mRm (M : MdT) (c0 s0 : Nat) : Room := { frames := mFr M, locals := mLo M, cells := MXC - c0, slots := MXS - s0 }
/-- the program-wide words: Strings, classes that can't be cast, that can, nest mates' links, methods that are declared -/
abbrev GwT : Type := List (String × Nat × String) × List (String × String) × List (String × String) × List (String × Nat × String × String × String × String) × List (String × Nat × MethodName × String) × List MethodName
def GL (G : GwT) (A : Nat → Prop) (s : State) : Prop :=
  vx_Zq Bundle.tN "UNASSIGNED_STACK" Bundle.steD A s s.heap ∧ vx_Zq Bundle.tN "SUPPRESSED_SENTINEL" Bundle.listD A s s.heap ∧ (∀ q ∈ G.1, ∃ a, vk_R q.1 q.2.1 q.2.2 a s) ∧ (∀ q ∈ G.2.1, va_Nc q.1 q.2 s) ∧ ((∀ q ∈ G.2.2.1, (Cond.castable q.1 q.2).before #[] s = true) ∧ ∀ q ∈ G.2.2.2.2.2, (Cond.declares q).before #[] s = true) ∧
    (∀ q ∈ G.2.2.2.1, va_Nw (.fieldLinkNest q.1 q.2.1 q.2.2.1 q.2.2.2.1 q.2.2.2.2.1 q.2.2.2.2.2) s) ∧ (∀ q ∈ G.2.2.2.2.1, va_Nw (.methodLinkNest q.1 q.2.1 q.2.2.1 q.2.2.2) s) ∧ va_AO "Marginalia$Note" s ∧ va_AOA .int s
theorem va_AOA.moved {t : FieldType} {u U : State} (hvm : u.vm.Alike U.vm) (h : va_AOA t u) : va_AOA t U := by
  obtain ⟨comp, c, k, h1, h2, h3, h4, h5⟩ := arrayOverA_spec h
  obtain ⟨k', hk', he⟩ := hvm.2.2 _ _ h3
  have hi : (U.vm.classes.findIdx? fun (x : Class) => match x.kind with | .array component _ => component == comp | _ => false) = some c := by
    rw [hvm.findIdx?_eq _ (fun _ => rfl)]
    exact h2
  have hkind : k'.kind = .array comp (.array t) := by rw [he]; exact h4
  have f1 := h1
  rw [← hvm.findClass] at f1
  have f2 := h5
  rw [← hvm.findClass] at f2
  unfold va_AOA Cond.before Cond.holds
  simp only [Cond.value]
  rw [f1, Option.bind_some]
  refine (congrArg (fun o : Option Nat => (o.bind (fun c => (U.vm.classes[c]?).map fun (k : Class) => match k.kind with | .array _ ty => decide (ty = FieldType.array t) && decide (U.vm.findClass ("[" ++ (FieldType.array t).toString) = some c) | _ => false) == some true)) hi).trans ?_
  simp [hk', hkind, f2]
theorem GL.go {G : GwT} {A : Nat → Prop} {s U : State} (hW : s.WarmedH U.vm) (hk : ∀ a : Nat, a < s.heap.size → ¬ A a → U.heap[a]? = s.heap[a]?) (h : GL G A s) : GL G A U := by
  obtain ⟨h1, h2, h3, h4, h5, h6, h7, h8, h9⟩ := h
  refine ⟨vx_Zq.moved hW.alike (h1.kept hk), vx_Zq.moved hW.alike (h2.kept hk), fun q hq => ?_, fun q hq => (h4 q hq).moved hW.alike, ⟨fun q hq => ?_, fun q hq => ?_⟩, fun q hq => va_Nw.warmF hW (h6 q hq), fun q hq => va_Nw.warmM hW (h7 q hq), h8.moved hW.alike, h9.moved hW.alike⟩
  · obtain ⟨a, ha⟩ := h3 q hq
    exact ⟨a, ha.warm hW⟩
  · have e := Cond.onTables_vm (A := #[]) (A' := #[]) (U := s) (U' := U) U.vm (Cond.castable q.1 q.2) rfl
    rw [← show (Cond.castable q.1 q.2).before #[] (U.setVm U.vm) = (Cond.castable q.1 q.2).before #[] U from rfl, ← e, Cond.castable_setVm hW.alike]
    exact h5.1 q hq
  · have e := Cond.onTables_vm (A := #[]) (A' := #[]) (U := s) (U' := U) U.vm (Cond.declares q) rfl
    rw [← show (Cond.declares q).before #[] (U.setVm U.vm) = (Cond.declares q).before #[] U from rfl, ← e, Cond.declares_setVm hW.alike]
    exact h5.2 q hq
-- ---- the memory
def nF (c : Nat) : Nat := match c with
  | 1 => 2
  | 2 => 2
  | 3 => 10
  | 4 => 8
  | 5 => 5
  | 6 => 7
  | 7 => 23
  | _ => 0
/-- the fields' types -/
def zT (c : Nat) : Nat → FieldType := match c with
  | 1 => tyX0
  | 2 => tyX1
  | 3 => tyX2
  | 4 => tyX3
  | 5 => tyX4
  | 6 => tyX5
  | _ => tyX6
/-- which fields are references -/
def fR (c k : Nat) : Bool := match zT c k with
  | .int => false
  | .boolean => false
  | _ => true
def encF (h : Zh) (a c : Nat) : List Value := (List.range (nF c)).map (fun (k : Nat) => if fR c k = true then va_rf (gR h a k) else Value.int (Int32.ofInt (gI h a k)))
def akT (c : Nat) : FieldType := match c with
  | 11 => .long
  | 12 => .boolean
  | 13 => .object "Marginalia$Note"
  | 14 => .array .int
  | _ => .int
def akE (h : Zh) (a c : Nat) : vp_A := match c with
  | 11 => ((gL h a).toNat, .inr (.inl (fun j : Nat => gJ h a j)))
  | 13 => ((gL h a).toNat, .inr (.inr (.inr (.inr (fun j : Nat => gR h a j)))))
  | 14 => ((gL h a).toNat, .inr (.inr (.inr (.inr (fun j : Nat => gR h a j)))))
  | _ => ((gL h a).toNat, .inl (fun j : Nat => Int32.ofInt (gI h a j)))
def isE (h : Zh) (tys : List (ClassId × FieldType)) (a : Nat) (e : va_E) : Prop :=
  (gK h a ≤ 7 → e = .inr (gK h a - 1, encF h a (gK h a))) ∧ (10 ≤ gK h a → ∃ (cA : ClassId) (t : Nat), e = .inl (cA, akE h a (gK h a)) ∧ tys[t]? = some (cA, akT (gK h a)))
/-- in range: every int, every length; the kinds; what was made -/
def okh (h : Zh) : Prop := (∀ a i, inR (gI h a i)) ∧ (∀ a, 0 ≤ gL h a ∧ gL h a ≤ 1000000) ∧ (∀ a, gK h a ≤ 7 ∨ (10 ≤ gK h a ∧ gK h a ≤ 15)) ∧ gC h ≤ MXC ∧ gS h ≤ MXS
def inW (h : Zh) (tys : List (ClassId × FieldType)) (ws : va_W) : Prop := ∀ a, gK h a ≠ 0 → gK h a ≠ 15 → ∃ (k : Nat) (e : va_E), ws[k]? = some (a, e) ∧ isE h tys a e
/-- the memory h is what lies in the heap H, by the tables of U -/
def RH (D : va_G) (A : Nat → Prop) (h : Zh) (U : State) (H : Heap) : Prop := okh h ∧ ∃ (ws : va_W) (tys : List (ClassId × FieldType)), va_P D vwCl ws H ∧ va_D A ws ∧ va_K D vwCl tys U ∧ inW h tys ws
/-- the script -/
def SC (A : Nat → Prop) (h : Zh) (s : State) : Prop := ∀ a, gK h a = 15 → ¬ A a ∧ a < s.heap.size ∧ va_X a (gL h a).toNat (fun j : Nat => Int32.ofInt (gI h a j)) s s.heap
theorem RH.moved {D : va_G} {A : Nat → Prop} {h : Zh} {u U : State} {H : Heap} (hvm : u.vm.Alike U.vm) (k : RH D A h u H) : RH D A h U H := by
  obtain ⟨k0, ws, tys, k1, k2, k3, k4⟩ := k
  exact ⟨k0, ws, tys, k1, k2, k3.moved hvm, k4⟩
theorem SC.fwd {A : Nat → Prop} {h : Zh} {s U : State} (hvm : s.vm.Alike U.vm) (hz : s.heap.size ≤ U.heap.size) (hk : ∀ a : Nat, a < s.heap.size → ¬ A a → U.heap[a]? = s.heap[a]?) (k : SC A h s) : SC A h U := by
  intro a ha
  obtain ⟨k1, k2, k3⟩ := k a ha
  exact ⟨k1, Nat.lt_of_lt_of_le k2 hz, va_X.moved hvm (va_X.kept k3 (hk a k2 k1))⟩
theorem SC.back {A : Nat → Prop} {h : Zh} {s U : State} (hvm : s.vm.Alike U.vm) (hA : ∀ q, s.heap.size ≤ q → A q) (hk : ∀ a : Nat, a < s.heap.size → ¬ A a → U.heap[a]? = s.heap[a]?) (k : SC A h U) : SC A h s := by
  intro a ha
  obtain ⟨k1, k2, k3⟩ := k a ha
  have hl : a < s.heap.size := Nat.lt_of_not_le fun q => k1 (hA a q)
  exact ⟨k1, hl, va_X.moved hvm.symm (va_X.kept k3 (hk a hl k1).symm)⟩
/-- what a method's body stands in -/
def Cx (G : GwT) (A : Nat → Prop) (l : Launch) (M : MdT) (c0 s0 : Nat) (p : Program) (R : Room) (s : State) (mm : MethodId) (args : Array Value) (meth : Method) (c : Code) : Prop :=
  (p.tables.exec = Jvm.exec ∧ c.code = mCod M ∧ c.maxLocals = mMax M ∧ s.vm.findClass (mOwn M) = some mm.cls ∧ ∀ w ∈ mWs M, w.before args s = true) ∧ meth.sig.returnType = mRet M ∧ meth.locks = false ∧ meth.name = (mNam M).name ∧ c.exceptionTable.toList = tableOf (mHH M) ∧ R = mRm M c0 s0 ∧ l.stackTraces = false ∧ (∀ q, s.heap.size ≤ q → A q) ∧ GL G A s
/-- the classes that are thrown -/
def xcl (e : Nat) : String := match e with
  | 1 => "java/lang/IllegalArgumentException"
  | 2 => "java/lang/IllegalStateException"
  | _ => "java/lang/IndexOutOfBoundsException"
/-- a body's end: it has returned, or thrown; just what was made since is told -/
def EndR (D : va_G) (A : Nat → Prop) (Q : Zp) (c0 s0 : Nat) (s : State) (o : Outcome) (t : State) : Prop :=
  ∃ (v : Option Zv) (h : Zh) (L : List Loc), o = .returned (v.map cz) ∧ (∀ x, v = some x → okz x) ∧ Q (.inl v) h ∧ RH D A h t t.heap ∧ SC A h t ∧ va_F A s t ∧ c0 ≤ gC h ∧ s0 ≤ gS h ∧ FrameEnd s o t L (gC h - c0) (gS h - s0) ∧ ∀ q ∈ L, A q.base
def EndX (D : va_G) (A : Nat → Prop) (Q : Zp) (c0 s0 : Nat) (e : Nat) (s : State) (t : State) : Prop :=
  ∃ (h : Zh) (L : List Loc), Q (.inr e) h ∧ RH D A h t t.heap ∧ SC A h t ∧ va_F A s t ∧ c0 ≤ gC h ∧ s0 ≤ gS h ∧ s.sameButNew ({ t with vm := s.vm } : State) L (gC h - c0) (gS h - s0) ∧ ∀ q ∈ L, A q.base
def EndZ (D : va_G) (A : Nat → Prop) (Q : Zp) (c0 s0 : Nat) (below : List Frame) (s : State) : State → Prop := fun t =>
  ∃ o, t.status = .running ∧ Ended t below o ∧ (EndR D A Q c0 s0 s o t ∨ ∃ (q : Addr) (e : Nat) (ce : Cell), o = .threw q ∧ EndX D A Q c0 s0 e s t ∧ t.heap[q]? = some ce ∧ ce.vm = .none ∧ s.vm.findClass (xcl e) = some ce.cls ∧ s.WarmedH t.vm)
/-- what the machine's state is, soundly: from every state of the JVM that it depicts the run comes to the end -/
def XS (G : GwT) (Md : Nat → MdT) (D : va_G) (A : Nat → Prop) (l : Launch) : Zx := fun m pc ls st h Q =>
  ∀ (p : Program) (e : Env) (R : Room) (s : State) (mm : MethodId) (args : Array Value) (below : List Frame) (meth : Method) (c : Code) (H : Heap) (locs : List Loc) (lsC : Array Slot) (c0 s0 ce se : Nat),
    Cx G A l (Md m) c0 s0 p R s mm args meth c → RH D A h s H → SC A h s → va_S A s.heap H locs → lh lsC (mMax (Md m)) ls → (∀ v ∈ st, okz v) → gC h = c0 + ce → gS h = s0 + se →
    W p l e R s mm args below meth c H locs ce se (EndZ D A Q c0 s0 below s) (F0 mm pc lsC (st.map cz))
theorem W_mo {p : Program} {l : Launch} {e : Env} {R : Room} {s : State} {mm : MethodId} {args : Array Value} {below : List Frame} {meth : Method} {c : Code} {H : Heap} {locs : List Loc} {ce se : Nat} {Q Q2 : State → Prop} {g : JFrame} (hQ : ∀ t, Q t → Q2 t) (k : W p l e R s mm args below meth c H locs ce se Q g) : W p l e R s mm args below meth c H locs ce se Q2 g := fun T hT X => by
  obtain ⟨t, a1, b1⟩ := k T hT X
  exact ⟨t, a1, hQ t b1⟩
theorem XS_mo (G : GwT) (Md : Nat → MdT) (D : va_G) (A : Nat → Prop) (l : Launch) : ZxMo (XS G Md D A l) := by
  intro m pc ls st h Q Q2 hQ k p e R s mm args below meth c H locs lsC c0 s0 ce se k1 k2 k3 k4 k5 k6 k7 k8
  refine W_mo (fun t ht => ?_) (k p e R s mm args below meth c H locs lsC c0 s0 ce se k1 k2 k3 k4 k5 k6 k7 k8)
  obtain ⟨o, c1, c2, c3⟩ := ht
  refine ⟨o, c1, c2, ?_⟩
  rcases c3 with ⟨v, g, L, d1, d2, d3, d4⟩ | ⟨q, e0, cc, d1, ⟨g, L, f1, f2⟩, d3⟩
  · exact Or.inl ⟨v, g, L, d1, d2, hQ _ _ d3, d4⟩
  · exact Or.inr ⟨q, e0, cc, d1, ⟨g, L, hQ _ _ f1, f2⟩, d3⟩
/-- an instruction is sound at its place, and monotone -/
def SM (G : GwT) (Md : Nat → MdT) (D : va_G) (A : Nat → Prop) (l : Launch) (m pc : Nat) (f : Op1) : Prop := OpMo f ∧ ∀ ls st h Q, f (XS G Md D A l) m pc ls st h Q → XS G Md D A l m pc ls st h Q
end
section
/-! SOUNDNESS of the instructions that touch no memory -/
section SD1
variable {G : GwT} {Md : Nat → MdT} {D : va_G} {A : Nat → Prop} {l : Launch}
theorem sd_oLdI_n (m pc : Nat) (kf : Fin 4) (kk : Nat) (hk : (kf : Nat) = kk) (d : decode (mCod (Md m)) pc = .ok (.iload_n kf, 1)) : SM G Md D A l m pc (oLdI kk 1) := by
  refine ⟨mo_oLdI kk 1, fun ls st h Q k pp ee RR ss mm aa bb me cc0 HH lc lsC c0 s0 ce se C hR hC hS hl ho hcu hsu => ?_⟩
  obtain ⟨⟨hx, hb, hml, hown, hts⟩, hr, hlk, hnm, het, hRm, htr, hA, hG⟩ := id C
  unfold oLdI at k
  split at k
  · next x e =>
    have g := lh_get hl e
    exact lv_iload_n hx hb d hk g.1 (k pp ee RR ss mm aa bb me cc0 HH lc lsC c0 s0 ce se C hR hC hS hl (List.forall_mem_cons.mpr ⟨g.2, ho⟩) hcu hsu)
  · exact k.elim
theorem sd_oLdI (m pc : Nat) (kk : Nat) (d : decode (mCod (Md m)) pc = .ok (.iload kk, 2)) : SM G Md D A l m pc (oLdI kk 2) := by
  refine ⟨mo_oLdI kk 2, fun ls st h Q k pp ee RR ss mm aa bb me cc0 HH lc lsC c0 s0 ce se C hR hC hS hl ho hcu hsu => ?_⟩
  obtain ⟨⟨hx, hb, hml, hown, hts⟩, hr, hlk, hnm, het, hRm, htr, hA, hG⟩ := id C
  unfold oLdI at k
  split at k
  · next x e =>
    have g := lh_get hl e
    exact lv_iload hx hb d g.1 (k pp ee RR ss mm aa bb me cc0 HH lc lsC c0 s0 ce se C hR hC hS hl (List.forall_mem_cons.mpr ⟨g.2, ho⟩) hcu hsu)
  · exact k.elim
theorem sd_oLdL_n (m pc : Nat) (kf : Fin 4) (kk : Nat) (hk : (kf : Nat) = kk) (d : decode (mCod (Md m)) pc = .ok (.lload_n kf, 1)) : SM G Md D A l m pc (oLdL kk 1) := by
  refine ⟨mo_oLdL kk 1, fun ls st h Q k pp ee RR ss mm aa bb me cc0 HH lc lsC c0 s0 ce se C hR hC hS hl ho hcu hsu => ?_⟩
  obtain ⟨⟨hx, hb, hml, hown, hts⟩, hr, hlk, hnm, het, hRm, htr, hA, hG⟩ := id C
  unfold oLdL at k
  split at k
  · next x e =>
    have g := lh_get hl e
    exact lv_lload_n hx hb d hk g.1 (k pp ee RR ss mm aa bb me cc0 HH lc lsC c0 s0 ce se C hR hC hS hl (List.forall_mem_cons.mpr ⟨g.2, ho⟩) hcu hsu)
  · exact k.elim
theorem sd_oLdL (m pc : Nat) (kk : Nat) (d : decode (mCod (Md m)) pc = .ok (.lload kk, 2)) : SM G Md D A l m pc (oLdL kk 2) := by
  refine ⟨mo_oLdL kk 2, fun ls st h Q k pp ee RR ss mm aa bb me cc0 HH lc lsC c0 s0 ce se C hR hC hS hl ho hcu hsu => ?_⟩
  obtain ⟨⟨hx, hb, hml, hown, hts⟩, hr, hlk, hnm, het, hRm, htr, hA, hG⟩ := id C
  unfold oLdL at k
  split at k
  · next x e =>
    have g := lh_get hl e
    exact lv_lload hx hb d g.1 (k pp ee RR ss mm aa bb me cc0 HH lc lsC c0 s0 ce se C hR hC hS hl (List.forall_mem_cons.mpr ⟨g.2, ho⟩) hcu hsu)
  · exact k.elim
theorem sd_oLdD_n (m pc : Nat) (kf : Fin 4) (kk : Nat) (hk : (kf : Nat) = kk) (d : decode (mCod (Md m)) pc = .ok (.dload_n kf, 1)) : SM G Md D A l m pc (oLdD kk 1) := by
  refine ⟨mo_oLdD kk 1, fun ls st h Q k pp ee RR ss mm aa bb me cc0 HH lc lsC c0 s0 ce se C hR hC hS hl ho hcu hsu => ?_⟩
  obtain ⟨⟨hx, hb, hml, hown, hts⟩, hr, hlk, hnm, het, hRm, htr, hA, hG⟩ := id C
  unfold oLdD at k
  split at k
  · next x e =>
    have g := lh_get hl e
    exact lv_dload_n hx hb d hk g.1 (k pp ee RR ss mm aa bb me cc0 HH lc lsC c0 s0 ce se C hR hC hS hl (List.forall_mem_cons.mpr ⟨g.2, ho⟩) hcu hsu)
  · exact k.elim
theorem sd_oLdD (m pc : Nat) (kk : Nat) (d : decode (mCod (Md m)) pc = .ok (.dload kk, 2)) : SM G Md D A l m pc (oLdD kk 2) := by
  refine ⟨mo_oLdD kk 2, fun ls st h Q k pp ee RR ss mm aa bb me cc0 HH lc lsC c0 s0 ce se C hR hC hS hl ho hcu hsu => ?_⟩
  obtain ⟨⟨hx, hb, hml, hown, hts⟩, hr, hlk, hnm, het, hRm, htr, hA, hG⟩ := id C
  unfold oLdD at k
  split at k
  · next x e =>
    have g := lh_get hl e
    exact lv_dload hx hb d g.1 (k pp ee RR ss mm aa bb me cc0 HH lc lsC c0 s0 ce se C hR hC hS hl (List.forall_mem_cons.mpr ⟨g.2, ho⟩) hcu hsu)
  · exact k.elim
theorem sd_oLdR_n (m pc : Nat) (kf : Fin 4) (kk : Nat) (hk : (kf : Nat) = kk) (d : decode (mCod (Md m)) pc = .ok (.aload_n kf, 1)) : SM G Md D A l m pc (oLdR kk 1) := by
  refine ⟨mo_oLdR kk 1, fun ls st h Q k pp ee RR ss mm aa bb me cc0 HH lc lsC c0 s0 ce se C hR hC hS hl ho hcu hsu => ?_⟩
  obtain ⟨⟨hx, hb, hml, hown, hts⟩, hr, hlk, hnm, het, hRm, htr, hA, hG⟩ := id C
  unfold oLdR at k
  split at k
  · next x e =>
    have g := lh_get hl e
    match x, g with
    | none, g => exact lv_aload_nN hx hb d hk g.1 (k pp ee RR ss mm aa bb me cc0 HH lc lsC c0 s0 ce se C hR hC hS hl (List.forall_mem_cons.mpr ⟨g.2, ho⟩) hcu hsu)
    | some q, g => exact lv_aload_n hx hb d hk g.1 (k pp ee RR ss mm aa bb me cc0 HH lc lsC c0 s0 ce se C hR hC hS hl (List.forall_mem_cons.mpr ⟨g.2, ho⟩) hcu hsu)
  · exact k.elim
theorem sd_oLdR (m pc : Nat) (kk : Nat) (d : decode (mCod (Md m)) pc = .ok (.aload kk, 2)) : SM G Md D A l m pc (oLdR kk 2) := by
  refine ⟨mo_oLdR kk 2, fun ls st h Q k pp ee RR ss mm aa bb me cc0 HH lc lsC c0 s0 ce se C hR hC hS hl ho hcu hsu => ?_⟩
  obtain ⟨⟨hx, hb, hml, hown, hts⟩, hr, hlk, hnm, het, hRm, htr, hA, hG⟩ := id C
  unfold oLdR at k
  split at k
  · next x e =>
    have g := lh_get hl e
    match x, g with
    | none, g => exact lv_aloadN hx hb d g.1 (k pp ee RR ss mm aa bb me cc0 HH lc lsC c0 s0 ce se C hR hC hS hl (List.forall_mem_cons.mpr ⟨g.2, ho⟩) hcu hsu)
    | some q, g => exact lv_aload hx hb d g.1 (k pp ee RR ss mm aa bb me cc0 HH lc lsC c0 s0 ce se C hR hC hS hl (List.forall_mem_cons.mpr ⟨g.2, ho⟩) hcu hsu)
  · exact k.elim
theorem sd_oStI_n (m pc : Nat) (kf : Fin 4) (kk : Nat) (hk : (kf : Nat) = kk) (hn : kk < mMax (Md m)) (d : decode (mCod (Md m)) pc = .ok (.istore_n kf, 1)) : SM G Md D A l m pc (oStI kk 1) := by
  refine ⟨mo_oStI kk 1, fun ls st h Q k pp ee RR ss mm aa bb me cc0 HH lc lsC c0 s0 ce se C hR hC hS hl ho hcu hsu => ?_⟩
  obtain ⟨⟨hx, hb, hml, hown, hts⟩, hr, hlk, hnm, het, hRm, htr, hA, hG⟩ := id C
  unfold oStI at k
  split at k
  · next x r =>
    replace ho := List.forall_mem_cons.mp ho
    obtain ⟨ox, ho⟩ := ho
    exact lv_istore_n hx hb d hk (lh.has hl) hn rfl (fun ls' hl' => k pp ee RR ss mm aa bb me cc0 HH lc ls' c0 s0 ce se C hR hC hS (lh_st1 hl ox hl') ho hcu hsu)
  · exact k.elim
theorem sd_oStI (m pc : Nat) (kk : Nat) (hn : kk < mMax (Md m)) (d : decode (mCod (Md m)) pc = .ok (.istore kk, 2)) : SM G Md D A l m pc (oStI kk 2) := by
  refine ⟨mo_oStI kk 2, fun ls st h Q k pp ee RR ss mm aa bb me cc0 HH lc lsC c0 s0 ce se C hR hC hS hl ho hcu hsu => ?_⟩
  obtain ⟨⟨hx, hb, hml, hown, hts⟩, hr, hlk, hnm, het, hRm, htr, hA, hG⟩ := id C
  unfold oStI at k
  split at k
  · next x r =>
    replace ho := List.forall_mem_cons.mp ho
    obtain ⟨ox, ho⟩ := ho
    exact lv_istore hx hb d (lh.has hl) hn rfl (fun ls' hl' => k pp ee RR ss mm aa bb me cc0 HH lc ls' c0 s0 ce se C hR hC hS (lh_st1 hl ox hl') ho hcu hsu)
  · exact k.elim
theorem sd_oStL_n (m pc : Nat) (kf : Fin 4) (kk : Nat) (hk : (kf : Nat) = kk) (hn : kk + 1 < mMax (Md m)) (d : decode (mCod (Md m)) pc = .ok (.lstore_n kf, 1)) : SM G Md D A l m pc (oStL kk 1) := by
  refine ⟨mo_oStL kk 1, fun ls st h Q k pp ee RR ss mm aa bb me cc0 HH lc lsC c0 s0 ce se C hR hC hS hl ho hcu hsu => ?_⟩
  obtain ⟨⟨hx, hb, hml, hown, hts⟩, hr, hlk, hnm, het, hRm, htr, hA, hG⟩ := id C
  unfold oStL at k
  split at k
  · next x r =>
    replace ho := List.forall_mem_cons.mp ho
    obtain ⟨ox, ho⟩ := ho
    exact lv_lstore_n hx hb d hk (lh.has hl) hn rfl (fun ls' hl' => k pp ee RR ss mm aa bb me cc0 HH lc ls' c0 s0 ce se C hR hC hS (lh_st2 hl ox hl') ho hcu hsu)
  · exact k.elim
theorem sd_oStL (m pc : Nat) (kk : Nat) (hn : kk + 1 < mMax (Md m)) (d : decode (mCod (Md m)) pc = .ok (.lstore kk, 2)) : SM G Md D A l m pc (oStL kk 2) := by
  refine ⟨mo_oStL kk 2, fun ls st h Q k pp ee RR ss mm aa bb me cc0 HH lc lsC c0 s0 ce se C hR hC hS hl ho hcu hsu => ?_⟩
  obtain ⟨⟨hx, hb, hml, hown, hts⟩, hr, hlk, hnm, het, hRm, htr, hA, hG⟩ := id C
  unfold oStL at k
  split at k
  · next x r =>
    replace ho := List.forall_mem_cons.mp ho
    obtain ⟨ox, ho⟩ := ho
    exact lv_lstore hx hb d (lh.has hl) hn rfl (fun ls' hl' => k pp ee RR ss mm aa bb me cc0 HH lc ls' c0 s0 ce se C hR hC hS (lh_st2 hl ox hl') ho hcu hsu)
  · exact k.elim
theorem sd_oStD_n (m pc : Nat) (kf : Fin 4) (kk : Nat) (hk : (kf : Nat) = kk) (hn : kk + 1 < mMax (Md m)) (d : decode (mCod (Md m)) pc = .ok (.dstore_n kf, 1)) : SM G Md D A l m pc (oStD kk 1) := by
  refine ⟨mo_oStD kk 1, fun ls st h Q k pp ee RR ss mm aa bb me cc0 HH lc lsC c0 s0 ce se C hR hC hS hl ho hcu hsu => ?_⟩
  obtain ⟨⟨hx, hb, hml, hown, hts⟩, hr, hlk, hnm, het, hRm, htr, hA, hG⟩ := id C
  unfold oStD at k
  split at k
  · next x r =>
    replace ho := List.forall_mem_cons.mp ho
    obtain ⟨ox, ho⟩ := ho
    exact lv_dstore_n hx hb d hk (lh.has hl) hn rfl (fun ls' hl' => k pp ee RR ss mm aa bb me cc0 HH lc ls' c0 s0 ce se C hR hC hS (lh_st2 hl ox hl') ho hcu hsu)
  · exact k.elim
theorem sd_oStD (m pc : Nat) (kk : Nat) (hn : kk + 1 < mMax (Md m)) (d : decode (mCod (Md m)) pc = .ok (.dstore kk, 2)) : SM G Md D A l m pc (oStD kk 2) := by
  refine ⟨mo_oStD kk 2, fun ls st h Q k pp ee RR ss mm aa bb me cc0 HH lc lsC c0 s0 ce se C hR hC hS hl ho hcu hsu => ?_⟩
  obtain ⟨⟨hx, hb, hml, hown, hts⟩, hr, hlk, hnm, het, hRm, htr, hA, hG⟩ := id C
  unfold oStD at k
  split at k
  · next x r =>
    replace ho := List.forall_mem_cons.mp ho
    obtain ⟨ox, ho⟩ := ho
    exact lv_dstore hx hb d (lh.has hl) hn rfl (fun ls' hl' => k pp ee RR ss mm aa bb me cc0 HH lc ls' c0 s0 ce se C hR hC hS (lh_st2 hl ox hl') ho hcu hsu)
  · exact k.elim
theorem sd_oStR_n (m pc : Nat) (kf : Fin 4) (kk : Nat) (hk : (kf : Nat) = kk) (hn : kk < mMax (Md m)) (d : decode (mCod (Md m)) pc = .ok (.astore_n kf, 1)) : SM G Md D A l m pc (oStR kk 1) := by
  refine ⟨mo_oStR kk 1, fun ls st h Q k pp ee RR ss mm aa bb me cc0 HH lc lsC c0 s0 ce se C hR hC hS hl ho hcu hsu => ?_⟩
  obtain ⟨⟨hx, hb, hml, hown, hts⟩, hr, hlk, hnm, het, hRm, htr, hA, hG⟩ := id C
  unfold oStR at k
  split at k
  · next x r =>
    replace ho := List.forall_mem_cons.mp ho
    obtain ⟨ox, ho⟩ := ho
    match x, ox, k with
    | none, ox, k => exact lv_astore_nN hx hb d hk (lh.has hl) hn rfl (fun ls' hl' => k pp ee RR ss mm aa bb me cc0 HH lc ls' c0 s0 ce se C hR hC hS (lh_st1 (v := zr none) hl ox hl') ho hcu hsu)
    | some q, ox, k => exact lv_astore_n hx hb d hk (lh.has hl) hn rfl (fun ls' hl' => k pp ee RR ss mm aa bb me cc0 HH lc ls' c0 s0 ce se C hR hC hS (lh_st1 (v := zr (some q)) hl ox hl') ho hcu hsu)
  · exact k.elim
theorem sd_oStR (m pc : Nat) (kk : Nat) (hn : kk < mMax (Md m)) (d : decode (mCod (Md m)) pc = .ok (.astore kk, 2)) : SM G Md D A l m pc (oStR kk 2) := by
  refine ⟨mo_oStR kk 2, fun ls st h Q k pp ee RR ss mm aa bb me cc0 HH lc lsC c0 s0 ce se C hR hC hS hl ho hcu hsu => ?_⟩
  obtain ⟨⟨hx, hb, hml, hown, hts⟩, hr, hlk, hnm, het, hRm, htr, hA, hG⟩ := id C
  unfold oStR at k
  split at k
  · next x r =>
    replace ho := List.forall_mem_cons.mp ho
    obtain ⟨ox, ho⟩ := ho
    match x, ox, k with
    | none, ox, k => exact lv_astoreN hx hb d (lh.has hl) hn rfl (fun ls' hl' => k pp ee RR ss mm aa bb me cc0 HH lc ls' c0 s0 ce se C hR hC hS (lh_st1 (v := zr none) hl ox hl') ho hcu hsu)
    | some q, ox, k => exact lv_astore hx hb d (lh.has hl) hn rfl (fun ls' hl' => k pp ee RR ss mm aa bb me cc0 HH lc ls' c0 s0 ce se C hR hC hS (lh_st1 (v := zr (some q)) hl ox hl') ho hcu hsu)
  · exact k.elim
theorem sd_iconst (m pc : Nat) (n : Int) (hn : inR n) (d : decode (mCod (Md m)) pc = .ok (.iconst n, 1)) : SM G Md D A l m pc (oCI n 1) := by
  refine ⟨mo_oCI n 1, fun ls st h Q k pp ee RR ss mm aa bb me cc0 HH lc lsC c0 s0 ce se C hR hC hS hl ho hcu hsu => ?_⟩
  obtain ⟨⟨hx, hb, hml, hown, hts⟩, hr, hlk, hnm, het, hRm, htr, hA, hG⟩ := id C
  unfold oCI at k
  exact lv_iconst hx hb d rfl (k pp ee RR ss mm aa bb me cc0 HH lc lsC c0 s0 ce se C hR hC hS hl (List.forall_mem_cons.mpr ⟨hn, ho⟩) hcu hsu)
theorem sd_bipush (m pc : Nat) (n : Int) (hn : inR n) (hv : (Int8.ofInt n).toInt32 = Int32.ofInt n) (d : decode (mCod (Md m)) pc = .ok (.bipush n, 2)) : SM G Md D A l m pc (oCI n 2) := by
  refine ⟨mo_oCI n 2, fun ls st h Q k pp ee RR ss mm aa bb me cc0 HH lc lsC c0 s0 ce se C hR hC hS hl ho hcu hsu => ?_⟩
  obtain ⟨⟨hx, hb, hml, hown, hts⟩, hr, hlk, hnm, het, hRm, htr, hA, hG⟩ := id C
  unfold oCI at k
  exact lv_bipush hx hb d hv (k pp ee RR ss mm aa bb me cc0 HH lc lsC c0 s0 ce se C hR hC hS hl (List.forall_mem_cons.mpr ⟨hn, ho⟩) hcu hsu)
theorem sd_sipush (m pc : Nat) (n : Int) (hn : inR n) (hv : (Int16.ofInt n).toInt32 = Int32.ofInt n) (d : decode (mCod (Md m)) pc = .ok (.sipush n, 3)) : SM G Md D A l m pc (oCI n 3) := by
  refine ⟨mo_oCI n 3, fun ls st h Q k pp ee RR ss mm aa bb me cc0 HH lc lsC c0 s0 ce se C hR hC hS hl ho hcu hsu => ?_⟩
  obtain ⟨⟨hx, hb, hml, hown, hts⟩, hr, hlk, hnm, het, hRm, htr, hA, hG⟩ := id C
  unfold oCI at k
  exact lv_sipush hx hb d hv (k pp ee RR ss mm aa bb me cc0 HH lc lsC c0 s0 ce se C hR hC hS hl (List.forall_mem_cons.mpr ⟨hn, ho⟩) hcu hsu)
theorem sd_lconst (m pc : Nat) (n : Fin 2) (v : Int64) (hv : Int64.ofNat (n : Nat) = v) (d : decode (mCod (Md m)) pc = .ok (.lconst n, 1)) : SM G Md D A l m pc (oCL v 1) := by
  refine ⟨mo_oCL v 1, fun ls st h Q k pp ee RR ss mm aa bb me cc0 HH lc lsC c0 s0 ce se C hR hC hS hl ho hcu hsu => ?_⟩
  obtain ⟨⟨hx, hb, hml, hown, hts⟩, hr, hlk, hnm, het, hRm, htr, hA, hG⟩ := id C
  unfold oCL at k
  exact lv_lconst hx hb d hv (k pp ee RR ss mm aa bb me cc0 HH lc lsC c0 s0 ce se C hR hC hS hl (List.forall_mem_cons.mpr ⟨trivial, ho⟩) hcu hsu)
theorem sd_ldc2 (m pc : Nat) (ix : Nat) (v : Int64) (hw : Cond.constantLong (mOwn (Md m)) ix v ∈ mWs (Md m)) (d : decode (mCod (Md m)) pc = .ok (.ldc2_w ix, 3)) : SM G Md D A l m pc (oCL v 3) := by
  refine ⟨mo_oCL v 3, fun ls st h Q k pp ee RR ss mm aa bb me cc0 HH lc lsC c0 s0 ce se C hR hC hS hl ho hcu hsu => ?_⟩
  obtain ⟨⟨hx, hb, hml, hown, hts⟩, hr, hlk, hnm, het, hRm, htr, hA, hG⟩ := id C
  unfold oCL at k
  exact lv_ldc2 hx hb hown (hts _ hw) d (k pp ee RR ss mm aa bb me cc0 HH lc lsC c0 s0 ce se C hR hC hS hl (List.forall_mem_cons.mpr ⟨trivial, ho⟩) hcu hsu)
theorem sd_dconst0 (m pc : Nat)  (d : decode (mCod (Md m)) pc = .ok (.dconst 0, 1)) : SM G Md D A l m pc (oCD) := by
  refine ⟨mo_oCD, fun ls st h Q k pp ee RR ss mm aa bb me cc0 HH lc lsC c0 s0 ce se C hR hC hS hl ho hcu hsu => ?_⟩
  obtain ⟨⟨hx, hb, hml, hown, hts⟩, hr, hlk, hnm, het, hRm, htr, hA, hG⟩ := id C
  unfold oCD at k
  exact lv_dconst0 hx hb d (k pp ee RR ss mm aa bb me cc0 HH lc lsC c0 s0 ce se C hR hC hS hl (List.forall_mem_cons.mpr ⟨trivial, ho⟩) hcu hsu)
theorem sd_null (m pc : Nat)  (d : decode (mCod (Md m)) pc = .ok (.aconst_null, 1)) : SM G Md D A l m pc (oNull) := by
  refine ⟨mo_oNull, fun ls st h Q k pp ee RR ss mm aa bb me cc0 HH lc lsC c0 s0 ce se C hR hC hS hl ho hcu hsu => ?_⟩
  obtain ⟨⟨hx, hb, hml, hown, hts⟩, hr, hlk, hnm, het, hRm, htr, hA, hG⟩ := id C
  unfold oNull at k
  exact lv_null hx hb d (k pp ee RR ss mm aa bb me cc0 HH lc lsC c0 s0 ce se C hR hC hS hl (List.forall_mem_cons.mpr ⟨trivial, ho⟩) hcu hsu)
theorem sd_iinc (m pc : Nat) (kk : Nat) (n : Int) (hn : kk < mMax (Md m)) (d : decode (mCod (Md m)) pc = .ok (.iinc kk n, 3)) : SM G Md D A l m pc (oInc kk n) := by
  refine ⟨mo_oInc kk n, fun ls st h Q k pp ee RR ss mm aa bb me cc0 HH lc lsC c0 s0 ce se C hR hC hS hl ho hcu hsu => ?_⟩
  obtain ⟨⟨hx, hb, hml, hown, hts⟩, hr, hlk, hnm, het, hRm, htr, hA, hG⟩ := id C
  unfold oInc at k
  split at k
  · next x e =>
    have g := lh_get hl e
    obtain ⟨ki, hki⟩ := List.getElem?_of_mem ((prs_mem ls 0 (kk, cz (zi x))).mpr ⟨kk, zi x, e, by rw [Nat.zero_add]⟩)
    refine lv_iinc (v := Int32.ofInt (x + n)) hx hb d (lh.has hl) hki (by rw [Int32.ofInt_add]) hn rfl (fun ls' hl' => ?_)
    exact k.2 pp ee RR ss mm aa bb me cc0 HH lc ls' c0 s0 ce se C hR hC hS (lh_st1 (v := zi (x + n)) hl k.1 hl') ho hcu hsu
  · exact k.elim
theorem sd_iadd (m pc : Nat)  (d : decode (mCod (Md m)) pc = .ok (.iadd, 1)) : SM G Md D A l m pc (oAdd) := by
  refine ⟨mo_oAdd, fun ls st h Q k pp ee RR ss mm aa bb me cc0 HH lc lsC c0 s0 ce se C hR hC hS hl ho hcu hsu => ?_⟩
  obtain ⟨⟨hx, hb, hml, hown, hts⟩, hr, hlk, hnm, het, hRm, htr, hA, hG⟩ := id C
  unfold oAdd at k
  split at k
  · next b a r =>
    replace ho := List.forall_mem_cons.mp ho
    obtain ⟨ob, ho⟩ := ho
    replace ho := List.forall_mem_cons.mp ho
    obtain ⟨oa, ho⟩ := ho
    refine lv_iadd hx hb d ?_
    rw [← Int32.ofInt_add]
    exact k.2 pp ee RR ss mm aa bb me cc0 HH lc lsC c0 s0 ce se C hR hC hS hl (List.forall_mem_cons.mpr ⟨k.1, ho⟩) hcu hsu
  · exact k.elim
theorem sd_isub (m pc : Nat)  (d : decode (mCod (Md m)) pc = .ok (.isub, 1)) : SM G Md D A l m pc (oSub) := by
  refine ⟨mo_oSub, fun ls st h Q k pp ee RR ss mm aa bb me cc0 HH lc lsC c0 s0 ce se C hR hC hS hl ho hcu hsu => ?_⟩
  obtain ⟨⟨hx, hb, hml, hown, hts⟩, hr, hlk, hnm, het, hRm, htr, hA, hG⟩ := id C
  unfold oSub at k
  split at k
  · next b a r =>
    replace ho := List.forall_mem_cons.mp ho
    obtain ⟨ob, ho⟩ := ho
    replace ho := List.forall_mem_cons.mp ho
    obtain ⟨oa, ho⟩ := ho
    refine lv_isub hx hb d ?_
    rw [← Int32.ofInt_sub]
    exact k.2 pp ee RR ss mm aa bb me cc0 HH lc lsC c0 s0 ce se C hR hC hS hl (List.forall_mem_cons.mpr ⟨k.1, ho⟩) hcu hsu
  · exact k.elim
theorem sd_imul (m pc : Nat)  (d : decode (mCod (Md m)) pc = .ok (.imul, 1)) : SM G Md D A l m pc (oMul) := by
  refine ⟨mo_oMul, fun ls st h Q k pp ee RR ss mm aa bb me cc0 HH lc lsC c0 s0 ce se C hR hC hS hl ho hcu hsu => ?_⟩
  obtain ⟨⟨hx, hb, hml, hown, hts⟩, hr, hlk, hnm, het, hRm, htr, hA, hG⟩ := id C
  unfold oMul at k
  split at k
  · next b a r =>
    replace ho := List.forall_mem_cons.mp ho
    obtain ⟨ob, ho⟩ := ho
    replace ho := List.forall_mem_cons.mp ho
    obtain ⟨oa, ho⟩ := ho
    refine lv_imul hx hb d ?_
    rw [← Int32.ofInt_mul]
    exact k.2 pp ee RR ss mm aa bb me cc0 HH lc lsC c0 s0 ce se C hR hC hS hl (List.forall_mem_cons.mpr ⟨k.1, ho⟩) hcu hsu
  · exact k.elim
theorem z_div {a b : Int} (ha : inR a) (hb : inR b) (h0 : 0 ≤ a) (h1 : 0 < b) : Int32.ofInt a / Int32.ofInt b = Int32.ofInt (a / b) ∧ inR (a / b) := by
  have h2 : 0 ≤ a / b := Int.ediv_nonneg h0 (Int.le_of_lt h1)
  have h3 : a / b ≤ a := Int.ediv_le_self b h0
  have h4 : inR (a / b) := ⟨by have := ha.1; omega, by have := ha.2; omega⟩
  refine ⟨?_, h4⟩
  rw [← Int32.toInt_inj, z_ofI h4, Int32.toInt_div, z_ofI ha, z_ofI hb, Int.tdiv_eq_ediv_of_nonneg h0]
  exact Int.bmod_eq_of_le (by have := h4.1; omega) (by have := h4.2; omega)
theorem z_rem {a b : Int} (ha : inR a) (hb : inR b) (h0 : 0 ≤ a) (h1 : 0 < b) : Int32.ofInt a - Int32.ofInt a / Int32.ofInt b * Int32.ofInt b = Int32.ofInt (a % b) ∧ inR (a % b) := by
  have h2 : 0 ≤ a % b := Int.emod_nonneg a (Int.ne_of_gt h1)
  have h3 : a % b < b := Int.emod_lt_of_pos a h1
  refine ⟨?_, ⟨by omega, by have := hb.2; omega⟩⟩
  rw [(z_div ha hb h0 h1).1, ← Int32.ofInt_mul, ← Int32.ofInt_sub]
  congr 1
  have := Int.emod_add_mul_ediv a b
  rw [Int.mul_comm] at this
  omega
theorem z_and {a : Int} : Int32.ofInt a &&& Int32.ofInt 31 = Int32.ofInt (a % 32) := by
  apply Int32.toBitVec_inj.mp
  rw [Int32.toBitVec_and, Int32.toBitVec_ofInt, Int32.toBitVec_ofInt, Int32.toBitVec_ofInt]
  apply BitVec.eq_of_toNat_eq
  rw [BitVec.toNat_and, BitVec.toNat_ofInt, BitVec.toNat_ofInt, BitVec.toNat_ofInt]
  have e : ((31 : Int) % (2 ^ 32 : Nat)).toNat = 2 ^ 5 - 1 := by decide
  rw [e, Nat.and_two_pow_sub_one_eq_mod]
  have h1 : 0 ≤ a % ((2 ^ 32 : Nat) : Int) := Int.emod_nonneg a (by decide)
  have h2 : 0 ≤ a % 32 := Int.emod_nonneg a (by decide)
  have h3 : a % 32 < 32 := Int.emod_lt_of_pos a (by decide)
  apply Int.ofNat.inj
  show (((a % ((2 ^ 32 : Nat) : Int)).toNat % 2 ^ 5 : Nat) : Int) = ((a % 32 % ((2 ^ 32 : Nat) : Int)).toNat : Int)
  rw [Int.natCast_emod, Int.toNat_of_nonneg h1, Int.toNat_of_nonneg (Int.emod_nonneg _ (by decide))]
  have e2 : (((2 ^ 5 : Nat)) : Int) = 32 := by decide
  have e3 : (((2 ^ 32 : Nat)) : Int) = 4294967296 := by decide
  rw [e2, e3]
  omega
theorem sd_idiv (m pc : Nat)  (d : decode (mCod (Md m)) pc = .ok (.idiv, 1)) : SM G Md D A l m pc (oDiv) := by
  refine ⟨mo_oDiv, fun ls st h Q k pp ee RR ss mm aa bb me cc0 HH lc lsC c0 s0 ce se C hR hC hS hl ho hcu hsu => ?_⟩
  obtain ⟨⟨hx, hb, hml, hown, hts⟩, hr, hlk, hnm, het, hRm, htr, hA, hG⟩ := id C
  unfold oDiv at k
  split at k
  · next b a r =>
    replace ho := List.forall_mem_cons.mp ho
    obtain ⟨ob, ho⟩ := ho
    replace ho := List.forall_mem_cons.mp ho
    obtain ⟨oa, ho⟩ := ho
    have z := z_div oa ob k.1.1 k.1.2
    refine lv_idiv hx hb d (fun q => ?_) ?_
    · rw [z_0e, z_eq ob z_0] at q
      have := k.1.2
      omega
    · rw [z.1]
      exact k.2 pp ee RR ss mm aa bb me cc0 HH lc lsC c0 s0 ce se C hR hC hS hl (List.forall_mem_cons.mpr ⟨z.2, ho⟩) hcu hsu
  · exact k.elim
theorem sd_irem (m pc : Nat)  (d : decode (mCod (Md m)) pc = .ok (.irem, 1)) : SM G Md D A l m pc (oRem) := by
  refine ⟨mo_oRem, fun ls st h Q k pp ee RR ss mm aa bb me cc0 HH lc lsC c0 s0 ce se C hR hC hS hl ho hcu hsu => ?_⟩
  obtain ⟨⟨hx, hb, hml, hown, hts⟩, hr, hlk, hnm, het, hRm, htr, hA, hG⟩ := id C
  unfold oRem at k
  split at k
  · next b a r =>
    replace ho := List.forall_mem_cons.mp ho
    obtain ⟨ob, ho⟩ := ho
    replace ho := List.forall_mem_cons.mp ho
    obtain ⟨oa, ho⟩ := ho
    have z := z_rem oa ob k.1.1 k.1.2
    refine lv_irem hx hb d (fun q => ?_) ?_
    · rw [z_0e, z_eq ob z_0] at q
      have := k.1.2
      omega
    · rw [z.1]
      exact k.2 pp ee RR ss mm aa bb me cc0 HH lc lsC c0 s0 ce se C hR hC hS hl (List.forall_mem_cons.mpr ⟨z.2, ho⟩) hcu hsu
  · exact k.elim
theorem sd_iand (m pc : Nat)  (d : decode (mCod (Md m)) pc = .ok (.iand, 1)) : SM G Md D A l m pc (oAnd) := by
  refine ⟨mo_oAnd, fun ls st h Q k pp ee RR ss mm aa bb me cc0 HH lc lsC c0 s0 ce se C hR hC hS hl ho hcu hsu => ?_⟩
  obtain ⟨⟨hx, hb, hml, hown, hts⟩, hr, hlk, hnm, het, hRm, htr, hA, hG⟩ := id C
  unfold oAnd at k
  split at k
  · next b a r =>
    replace ho := List.forall_mem_cons.mp ho
    obtain ⟨ob, ho⟩ := ho
    replace ho := List.forall_mem_cons.mp ho
    obtain ⟨oa, ho⟩ := ho
    have e : b = 31 := k.1
    subst e
    refine lv_iand hx hb d ?_
    rw [z_and]
    have h2 : 0 ≤ a % 32 := Int.emod_nonneg a (by decide)
    have h3 : a % 32 < 32 := Int.emod_lt_of_pos a (by decide)
    exact k.2 pp ee RR ss mm aa bb me cc0 HH lc lsC c0 s0 ce se C hR hC hS hl (List.forall_mem_cons.mpr ⟨⟨by omega, by omega⟩, ho⟩) hcu hsu
  · exact k.elim
theorem sd_i2l (m pc : Nat)  (d : decode (mCod (Md m)) pc = .ok (.i2l, 1)) : SM G Md D A l m pc (oI2L) := by
  refine ⟨mo_oI2L, fun ls st h Q k pp ee RR ss mm aa bb me cc0 HH lc lsC c0 s0 ce se C hR hC hS hl ho hcu hsu => ?_⟩
  obtain ⟨⟨hx, hb, hml, hown, hts⟩, hr, hlk, hnm, het, hRm, htr, hA, hG⟩ := id C
  unfold oI2L at k
  split at k
  · next a r =>
    replace ho := List.forall_mem_cons.mp ho
    obtain ⟨oa, ho⟩ := ho
    refine lv_i2l (v := Int64.ofInt a) hx hb d ?_ (k pp ee RR ss mm aa bb me cc0 HH lc lsC c0 s0 ce se C hR hC hS hl (List.forall_mem_cons.mpr ⟨trivial, ho⟩) hcu hsu)
    rw [← Int64.toInt_inj, Int32.toInt_toInt64, z_ofI oa, Int64.toInt_ofInt_of_le (by have := oa.1; omega) (by have := oa.2; omega)]
  · exact k.elim
theorem sd_ladd (m pc : Nat)  (d : decode (mCod (Md m)) pc = .ok (.ladd, 1)) : SM G Md D A l m pc (oLAdd) := by
  refine ⟨mo_oLAdd, fun ls st h Q k pp ee RR ss mm aa bb me cc0 HH lc lsC c0 s0 ce se C hR hC hS hl ho hcu hsu => ?_⟩
  obtain ⟨⟨hx, hb, hml, hown, hts⟩, hr, hlk, hnm, het, hRm, htr, hA, hG⟩ := id C
  unfold oLAdd at k
  split at k
  · next b a r =>
    replace ho := List.forall_mem_cons.mp ho
    obtain ⟨ob, ho⟩ := ho
    replace ho := List.forall_mem_cons.mp ho
    obtain ⟨oa, ho⟩ := ho
    exact lv_ladd hx hb d (k pp ee RR ss mm aa bb me cc0 HH lc lsC c0 s0 ce se C hR hC hS hl (List.forall_mem_cons.mpr ⟨trivial, ho⟩) hcu hsu)
  · exact k.elim
theorem sd_lmul (m pc : Nat)  (d : decode (mCod (Md m)) pc = .ok (.lmul, 1)) : SM G Md D A l m pc (oLMul) := by
  refine ⟨mo_oLMul, fun ls st h Q k pp ee RR ss mm aa bb me cc0 HH lc lsC c0 s0 ce se C hR hC hS hl ho hcu hsu => ?_⟩
  obtain ⟨⟨hx, hb, hml, hown, hts⟩, hr, hlk, hnm, het, hRm, htr, hA, hG⟩ := id C
  unfold oLMul at k
  split at k
  · next b a r =>
    replace ho := List.forall_mem_cons.mp ho
    obtain ⟨ob, ho⟩ := ho
    replace ho := List.forall_mem_cons.mp ho
    obtain ⟨oa, ho⟩ := ho
    exact lv_lmul hx hb d (k pp ee RR ss mm aa bb me cc0 HH lc lsC c0 s0 ce se C hR hC hS hl (List.forall_mem_cons.mpr ⟨trivial, ho⟩) hcu hsu)
  · exact k.elim
theorem z_lcmp (a b : Int64) : lg_cmp a b = Int32.ofInt (if a = b then 0 else if a < b then -1 else 1) ∧ inR (if a = b then 0 else if a < b then -1 else 1) := by
  unfold lg_cmp
  by_cases h : a = b
  · subst h
    have : ¬ a > a := by rw [gt_iff_lt, Int64.lt_iff_toInt_lt]; omega
    simp [this, inR]
  · by_cases h2 : a < b
    · have : ¬ a > b := by rw [gt_iff_lt, Int64.lt_iff_toInt_lt]; rw [Int64.lt_iff_toInt_lt] at h2; omega
      simp [this, h, h2, inR]
    · have : a > b := by
        rw [gt_iff_lt, Int64.lt_iff_toInt_lt]; rw [Int64.lt_iff_toInt_lt] at h2
        have : a.toInt ≠ b.toInt := fun q => h (Int64.toInt_inj.mp q)
        omega
      simp [this, h, h2, inR]
theorem sd_lcmp (m pc : Nat)  (d : decode (mCod (Md m)) pc = .ok (.lcmp, 1)) : SM G Md D A l m pc (oLCmp) := by
  refine ⟨mo_oLCmp, fun ls st h Q k pp ee RR ss mm aa bb me cc0 HH lc lsC c0 s0 ce se C hR hC hS hl ho hcu hsu => ?_⟩
  obtain ⟨⟨hx, hb, hml, hown, hts⟩, hr, hlk, hnm, het, hRm, htr, hA, hG⟩ := id C
  unfold oLCmp at k
  split at k
  · next b a r =>
    replace ho := List.forall_mem_cons.mp ho
    obtain ⟨ob, ho⟩ := ho
    replace ho := List.forall_mem_cons.mp ho
    obtain ⟨oa, ho⟩ := ho
    refine W.lcmp hx hb d ?_
    rw [(z_lcmp a b).1]
    exact k pp ee RR ss mm aa bb me cc0 HH lc lsC c0 s0 ce se C hR hC hS hl (List.forall_mem_cons.mpr ⟨(z_lcmp a b).2, ho⟩) hcu hsu
  · exact k.elim
theorem sd_i2d (m pc : Nat)  (d : decode (mCod (Md m)) pc = .ok (.i2d, 1)) : SM G Md D A l m pc (oI2D) := by
  refine ⟨mo_oI2D, fun ls st h Q k pp ee RR ss mm aa bb me cc0 HH lc lsC c0 s0 ce se C hR hC hS hl ho hcu hsu => ?_⟩
  obtain ⟨⟨hx, hb, hml, hown, hts⟩, hr, hlk, hnm, het, hRm, htr, hA, hG⟩ := id C
  unfold oI2D at k
  split at k
  · next a r =>
    replace ho := List.forall_mem_cons.mp ho
    obtain ⟨oa, ho⟩ := ho
    exact lv_i2d hx hb d (k pp ee RR ss mm aa bb me cc0 HH lc lsC c0 s0 ce se C hR hC hS hl (List.forall_mem_cons.mpr ⟨trivial, ho⟩) hcu hsu)
  · exact k.elim
theorem sd_ddiv (m pc : Nat)  (d : decode (mCod (Md m)) pc = .ok (.ddiv, 1)) : SM G Md D A l m pc (oDDiv) := by
  refine ⟨mo_oDDiv, fun ls st h Q k pp ee RR ss mm aa bb me cc0 HH lc lsC c0 s0 ce se C hR hC hS hl ho hcu hsu => ?_⟩
  obtain ⟨⟨hx, hb, hml, hown, hts⟩, hr, hlk, hnm, het, hRm, htr, hA, hG⟩ := id C
  unfold oDDiv at k
  split at k
  · next b a r =>
    replace ho := List.forall_mem_cons.mp ho
    obtain ⟨ob, ho⟩ := ho
    replace ho := List.forall_mem_cons.mp ho
    obtain ⟨oa, ho⟩ := ho
    exact lv_ddiv hx hb d k.1 (k.2 pp ee RR ss mm aa bb me cc0 HH lc lsC c0 s0 ce se C hR hC hS hl (List.forall_mem_cons.mpr ⟨trivial, ho⟩) hcu hsu)
  · exact k.elim
theorem z_i32 (x : Int32) : x = Int32.ofInt x.toInt ∧ inR x.toInt := by
  have h := Int32.toInt_lt x
  have h2 := Int32.le_toInt x
  have h3 : inR x.toInt := ⟨by omega, by omega⟩
  exact ⟨Int32.toInt_inj.mp (z_ofI h3).symm, h3⟩
theorem sd_dcmp (m pc : Nat) (o : CmpOp) (d : decode (mCod (Md m)) pc = .ok (.dcmp o, 1)) : SM G Md D A l m pc (oDCmp o) := by
  refine ⟨mo_oDCmp o, fun ls st h Q k pp ee RR ss mm aa bb me cc0 HH lc lsC c0 s0 ce se C hR hC hS hl ho hcu hsu => ?_⟩
  obtain ⟨⟨hx, hb, hml, hown, hts⟩, hr, hlk, hnm, het, hRm, htr, hA, hG⟩ := id C
  unfold oDCmp at k
  split at k
  · next b a r =>
    replace ho := List.forall_mem_cons.mp ho
    obtain ⟨ob, ho⟩ := ho
    replace ho := List.forall_mem_cons.mp ho
    obtain ⟨oa, ho⟩ := ho
    refine lv_dcmp hx hb d ?_
    rw [(z_i32 (Op.cmpValue (FP.dcmp a b) o)).1]
    exact k pp ee RR ss mm aa bb me cc0 HH lc lsC c0 s0 ce se C hR hC hS hl (List.forall_mem_cons.mpr ⟨(z_i32 _).2, ho⟩) hcu hsu
  · exact k.elim
theorem sd_dup (m pc : Nat)  (d : decode (mCod (Md m)) pc = .ok (.dup, 1)) : SM G Md D A l m pc (oDup) := by
  refine ⟨mo_oDup, fun ls st h Q k pp ee RR ss mm aa bb me cc0 HH lc lsC c0 s0 ce se C hR hC hS hl ho hcu hsu => ?_⟩
  obtain ⟨⟨hx, hb, hml, hown, hts⟩, hr, hlk, hnm, het, hRm, htr, hA, hG⟩ := id C
  unfold oDup at k
  split at k
  · next a r =>
    replace ho := List.forall_mem_cons.mp ho
    obtain ⟨oa, ho⟩ := ho
    exact lv_dup hx hb d (by rw [ctz_cz]; exact k.1) (k.2 pp ee RR ss mm aa bb me cc0 HH lc lsC c0 s0 ce se C hR hC hS hl (List.forall_mem_cons.mpr ⟨oa, List.forall_mem_cons.mpr ⟨oa, ho⟩⟩) hcu hsu)
  · exact k.elim
theorem sd_dup_x1 (m pc : Nat)  (d : decode (mCod (Md m)) pc = .ok (.dup_x1, 1)) : SM G Md D A l m pc (oDupX1) := by
  refine ⟨mo_oDupX1, fun ls st h Q k pp ee RR ss mm aa bb me cc0 HH lc lsC c0 s0 ce se C hR hC hS hl ho hcu hsu => ?_⟩
  obtain ⟨⟨hx, hb, hml, hown, hts⟩, hr, hlk, hnm, het, hRm, htr, hA, hG⟩ := id C
  unfold oDupX1 at k
  split at k
  · next a b r =>
    replace ho := List.forall_mem_cons.mp ho
    obtain ⟨oa, ho⟩ := ho
    replace ho := List.forall_mem_cons.mp ho
    obtain ⟨ob, ho⟩ := ho
    exact lv_dup_x1 hx hb d (by rw [ctz_cz]; exact k.1.1) (by rw [ctz_cz]; exact k.1.2) (k.2 pp ee RR ss mm aa bb me cc0 HH lc lsC c0 s0 ce se C hR hC hS hl (List.forall_mem_cons.mpr ⟨oa, List.forall_mem_cons.mpr ⟨ob, List.forall_mem_cons.mpr ⟨oa, ho⟩⟩⟩) hcu hsu)
  · exact k.elim
theorem sd_dup2 (m pc : Nat)  (d : decode (mCod (Md m)) pc = .ok (.dup2, 1)) : SM G Md D A l m pc (oDup2) := by
  refine ⟨mo_oDup2, fun ls st h Q k pp ee RR ss mm aa bb me cc0 HH lc lsC c0 s0 ce se C hR hC hS hl ho hcu hsu => ?_⟩
  obtain ⟨⟨hx, hb, hml, hown, hts⟩, hr, hlk, hnm, het, hRm, htr, hA, hG⟩ := id C
  unfold oDup2 at k
  split at k
  · next a b r =>
    replace ho := List.forall_mem_cons.mp ho
    obtain ⟨oa, ho⟩ := ho
    replace ho := List.forall_mem_cons.mp ho
    obtain ⟨ob, ho⟩ := ho
    exact lv_dup2_11 hx hb d (by rw [ctz_cz]; exact k.1.1) (by rw [ctz_cz]; exact k.1.2) (k.2 pp ee RR ss mm aa bb me cc0 HH lc lsC c0 s0 ce se C hR hC hS hl (List.forall_mem_cons.mpr ⟨oa, List.forall_mem_cons.mpr ⟨ob, List.forall_mem_cons.mpr ⟨oa, List.forall_mem_cons.mpr ⟨ob, ho⟩⟩⟩⟩) hcu hsu)
  · exact k.elim
theorem sd_if_eq (m pc : Nat) (off : Int) (t : Nat) (ht : (pc : Int) + off = (t : Int)) (d : decode (mCod (Md m)) pc = .ok (.ifCond .eq off, 3)) : SM G Md D A l m pc (oZeq t) := by
  refine ⟨mo_oZeq t, fun ls st h Q k pp ee RR ss mm aa bb me cc0 HH lc lsC c0 s0 ce se C hR hC hS hl ho hcu hsu => ?_⟩
  obtain ⟨⟨hx, hb, hml, hown, hts⟩, hr, hlk, hnm, het, hRm, htr, hA, hG⟩ := id C
  unfold oZeq at k
  split at k
  · next a r =>
    replace ho := List.forall_mem_cons.mp ho
    obtain ⟨oa, ho⟩ := ho
    exact lv_if_eq hx hb d ht (fun q => k.1 ((z_eq oa z_0).mp q) pp ee RR ss mm aa bb me cc0 HH lc lsC c0 s0 ce se C hR hC hS hl ho hcu hsu) (fun q => k.2 (fun z => q ((z_eq oa z_0).mpr z)) pp ee RR ss mm aa bb me cc0 HH lc lsC c0 s0 ce se C hR hC hS hl ho hcu hsu)
  · exact k.elim
theorem sd_if_ne (m pc : Nat) (off : Int) (t : Nat) (ht : (pc : Int) + off = (t : Int)) (d : decode (mCod (Md m)) pc = .ok (.ifCond .ne off, 3)) : SM G Md D A l m pc (oZne t) := by
  refine ⟨mo_oZne t, fun ls st h Q k pp ee RR ss mm aa bb me cc0 HH lc lsC c0 s0 ce se C hR hC hS hl ho hcu hsu => ?_⟩
  obtain ⟨⟨hx, hb, hml, hown, hts⟩, hr, hlk, hnm, het, hRm, htr, hA, hG⟩ := id C
  unfold oZne at k
  split at k
  · next a r =>
    replace ho := List.forall_mem_cons.mp ho
    obtain ⟨oa, ho⟩ := ho
    exact lv_if_ne hx hb d ht (fun q => k.2 (fun z => q ((z_eq oa z_0).mpr z)) pp ee RR ss mm aa bb me cc0 HH lc lsC c0 s0 ce se C hR hC hS hl ho hcu hsu) (fun q => k.1 ((z_eq oa z_0).mp q) pp ee RR ss mm aa bb me cc0 HH lc lsC c0 s0 ce se C hR hC hS hl ho hcu hsu)
  · exact k.elim
theorem sd_if_lt (m pc : Nat) (off : Int) (t : Nat) (ht : (pc : Int) + off = (t : Int)) (d : decode (mCod (Md m)) pc = .ok (.ifCond .lt off, 3)) : SM G Md D A l m pc (oZlt t) := by
  refine ⟨mo_oZlt t, fun ls st h Q k pp ee RR ss mm aa bb me cc0 HH lc lsC c0 s0 ce se C hR hC hS hl ho hcu hsu => ?_⟩
  obtain ⟨⟨hx, hb, hml, hown, hts⟩, hr, hlk, hnm, het, hRm, htr, hA, hG⟩ := id C
  unfold oZlt at k
  split at k
  · next a r =>
    replace ho := List.forall_mem_cons.mp ho
    obtain ⟨oa, ho⟩ := ho
    exact lv_if_lt hx hb d ht (fun q => k.1 ((z_lt oa z_0).mp q) pp ee RR ss mm aa bb me cc0 HH lc lsC c0 s0 ce se C hR hC hS hl ho hcu hsu) (fun q => k.2 (fun z => q ((z_lt oa z_0).mpr z)) pp ee RR ss mm aa bb me cc0 HH lc lsC c0 s0 ce se C hR hC hS hl ho hcu hsu)
  · exact k.elim
theorem sd_if_ge (m pc : Nat) (off : Int) (t : Nat) (ht : (pc : Int) + off = (t : Int)) (d : decode (mCod (Md m)) pc = .ok (.ifCond .ge off, 3)) : SM G Md D A l m pc (oZge t) := by
  refine ⟨mo_oZge t, fun ls st h Q k pp ee RR ss mm aa bb me cc0 HH lc lsC c0 s0 ce se C hR hC hS hl ho hcu hsu => ?_⟩
  obtain ⟨⟨hx, hb, hml, hown, hts⟩, hr, hlk, hnm, het, hRm, htr, hA, hG⟩ := id C
  unfold oZge at k
  split at k
  · next a r =>
    replace ho := List.forall_mem_cons.mp ho
    obtain ⟨oa, ho⟩ := ho
    exact lv_if_ge hx hb d ht (fun q => k.1 ((z_le z_0 oa).mp q) pp ee RR ss mm aa bb me cc0 HH lc lsC c0 s0 ce se C hR hC hS hl ho hcu hsu) (fun q => k.2 (fun z => q ((z_le z_0 oa).mpr z)) pp ee RR ss mm aa bb me cc0 HH lc lsC c0 s0 ce se C hR hC hS hl ho hcu hsu)
  · exact k.elim
theorem sd_if_gt (m pc : Nat) (off : Int) (t : Nat) (ht : (pc : Int) + off = (t : Int)) (d : decode (mCod (Md m)) pc = .ok (.ifCond .gt off, 3)) : SM G Md D A l m pc (oZgt t) := by
  refine ⟨mo_oZgt t, fun ls st h Q k pp ee RR ss mm aa bb me cc0 HH lc lsC c0 s0 ce se C hR hC hS hl ho hcu hsu => ?_⟩
  obtain ⟨⟨hx, hb, hml, hown, hts⟩, hr, hlk, hnm, het, hRm, htr, hA, hG⟩ := id C
  unfold oZgt at k
  split at k
  · next a r =>
    replace ho := List.forall_mem_cons.mp ho
    obtain ⟨oa, ho⟩ := ho
    exact lv_if_gt hx hb d ht (fun q => k.1 ((z_lt z_0 oa).mp q) pp ee RR ss mm aa bb me cc0 HH lc lsC c0 s0 ce se C hR hC hS hl ho hcu hsu) (fun q => k.2 (fun z => q ((z_lt z_0 oa).mpr z)) pp ee RR ss mm aa bb me cc0 HH lc lsC c0 s0 ce se C hR hC hS hl ho hcu hsu)
  · exact k.elim
theorem sd_if_le (m pc : Nat) (off : Int) (t : Nat) (ht : (pc : Int) + off = (t : Int)) (d : decode (mCod (Md m)) pc = .ok (.ifCond .le off, 3)) : SM G Md D A l m pc (oZle t) := by
  refine ⟨mo_oZle t, fun ls st h Q k pp ee RR ss mm aa bb me cc0 HH lc lsC c0 s0 ce se C hR hC hS hl ho hcu hsu => ?_⟩
  obtain ⟨⟨hx, hb, hml, hown, hts⟩, hr, hlk, hnm, het, hRm, htr, hA, hG⟩ := id C
  unfold oZle at k
  split at k
  · next a r =>
    replace ho := List.forall_mem_cons.mp ho
    obtain ⟨oa, ho⟩ := ho
    exact lv_if_le hx hb d ht (fun q => k.1 ((z_le oa z_0).mp q) pp ee RR ss mm aa bb me cc0 HH lc lsC c0 s0 ce se C hR hC hS hl ho hcu hsu) (fun q => k.2 (fun z => q ((z_le oa z_0).mpr z)) pp ee RR ss mm aa bb me cc0 HH lc lsC c0 s0 ce se C hR hC hS hl ho hcu hsu)
  · exact k.elim
theorem sd_icmp_eq (m pc : Nat) (off : Int) (t : Nat) (ht : (pc : Int) + off = (t : Int)) (d : decode (mCod (Md m)) pc = .ok (.if_icmp .eq off, 3)) : SM G Md D A l m pc (oCeq t) := by
  refine ⟨mo_oCeq t, fun ls st h Q k pp ee RR ss mm aa bb me cc0 HH lc lsC c0 s0 ce se C hR hC hS hl ho hcu hsu => ?_⟩
  obtain ⟨⟨hx, hb, hml, hown, hts⟩, hr, hlk, hnm, het, hRm, htr, hA, hG⟩ := id C
  unfold oCeq at k
  split at k
  · next b a r =>
    replace ho := List.forall_mem_cons.mp ho
    obtain ⟨ob, ho⟩ := ho
    replace ho := List.forall_mem_cons.mp ho
    obtain ⟨oa, ho⟩ := ho
    exact lv_icmp_eq hx hb d ht (fun q => k.1 ((z_eq oa ob).mp q) pp ee RR ss mm aa bb me cc0 HH lc lsC c0 s0 ce se C hR hC hS hl ho hcu hsu) (fun q => k.2 (fun z => q ((z_eq oa ob).mpr z)) pp ee RR ss mm aa bb me cc0 HH lc lsC c0 s0 ce se C hR hC hS hl ho hcu hsu)
  · exact k.elim
theorem sd_icmp_ne (m pc : Nat) (off : Int) (t : Nat) (ht : (pc : Int) + off = (t : Int)) (d : decode (mCod (Md m)) pc = .ok (.if_icmp .ne off, 3)) : SM G Md D A l m pc (oCne t) := by
  refine ⟨mo_oCne t, fun ls st h Q k pp ee RR ss mm aa bb me cc0 HH lc lsC c0 s0 ce se C hR hC hS hl ho hcu hsu => ?_⟩
  obtain ⟨⟨hx, hb, hml, hown, hts⟩, hr, hlk, hnm, het, hRm, htr, hA, hG⟩ := id C
  unfold oCne at k
  split at k
  · next b a r =>
    replace ho := List.forall_mem_cons.mp ho
    obtain ⟨ob, ho⟩ := ho
    replace ho := List.forall_mem_cons.mp ho
    obtain ⟨oa, ho⟩ := ho
    exact lv_icmp_ne hx hb d ht (fun q => k.2 (fun z => q ((z_eq oa ob).mpr z)) pp ee RR ss mm aa bb me cc0 HH lc lsC c0 s0 ce se C hR hC hS hl ho hcu hsu) (fun q => k.1 ((z_eq oa ob).mp q) pp ee RR ss mm aa bb me cc0 HH lc lsC c0 s0 ce se C hR hC hS hl ho hcu hsu)
  · exact k.elim
theorem sd_icmp_lt (m pc : Nat) (off : Int) (t : Nat) (ht : (pc : Int) + off = (t : Int)) (d : decode (mCod (Md m)) pc = .ok (.if_icmp .lt off, 3)) : SM G Md D A l m pc (oClt t) := by
  refine ⟨mo_oClt t, fun ls st h Q k pp ee RR ss mm aa bb me cc0 HH lc lsC c0 s0 ce se C hR hC hS hl ho hcu hsu => ?_⟩
  obtain ⟨⟨hx, hb, hml, hown, hts⟩, hr, hlk, hnm, het, hRm, htr, hA, hG⟩ := id C
  unfold oClt at k
  split at k
  · next b a r =>
    replace ho := List.forall_mem_cons.mp ho
    obtain ⟨ob, ho⟩ := ho
    replace ho := List.forall_mem_cons.mp ho
    obtain ⟨oa, ho⟩ := ho
    exact lv_icmp_lt hx hb d ht (fun q => k.1 ((z_lt oa ob).mp q) pp ee RR ss mm aa bb me cc0 HH lc lsC c0 s0 ce se C hR hC hS hl ho hcu hsu) (fun q => k.2 (fun z => q ((z_lt oa ob).mpr z)) pp ee RR ss mm aa bb me cc0 HH lc lsC c0 s0 ce se C hR hC hS hl ho hcu hsu)
  · exact k.elim
theorem sd_icmp_ge (m pc : Nat) (off : Int) (t : Nat) (ht : (pc : Int) + off = (t : Int)) (d : decode (mCod (Md m)) pc = .ok (.if_icmp .ge off, 3)) : SM G Md D A l m pc (oCge t) := by
  refine ⟨mo_oCge t, fun ls st h Q k pp ee RR ss mm aa bb me cc0 HH lc lsC c0 s0 ce se C hR hC hS hl ho hcu hsu => ?_⟩
  obtain ⟨⟨hx, hb, hml, hown, hts⟩, hr, hlk, hnm, het, hRm, htr, hA, hG⟩ := id C
  unfold oCge at k
  split at k
  · next b a r =>
    replace ho := List.forall_mem_cons.mp ho
    obtain ⟨ob, ho⟩ := ho
    replace ho := List.forall_mem_cons.mp ho
    obtain ⟨oa, ho⟩ := ho
    exact lv_icmp_ge hx hb d ht (fun q => k.1 ((z_le ob oa).mp q) pp ee RR ss mm aa bb me cc0 HH lc lsC c0 s0 ce se C hR hC hS hl ho hcu hsu) (fun q => k.2 (fun z => q ((z_le ob oa).mpr z)) pp ee RR ss mm aa bb me cc0 HH lc lsC c0 s0 ce se C hR hC hS hl ho hcu hsu)
  · exact k.elim
theorem sd_icmp_gt (m pc : Nat) (off : Int) (t : Nat) (ht : (pc : Int) + off = (t : Int)) (d : decode (mCod (Md m)) pc = .ok (.if_icmp .gt off, 3)) : SM G Md D A l m pc (oCgt t) := by
  refine ⟨mo_oCgt t, fun ls st h Q k pp ee RR ss mm aa bb me cc0 HH lc lsC c0 s0 ce se C hR hC hS hl ho hcu hsu => ?_⟩
  obtain ⟨⟨hx, hb, hml, hown, hts⟩, hr, hlk, hnm, het, hRm, htr, hA, hG⟩ := id C
  unfold oCgt at k
  split at k
  · next b a r =>
    replace ho := List.forall_mem_cons.mp ho
    obtain ⟨ob, ho⟩ := ho
    replace ho := List.forall_mem_cons.mp ho
    obtain ⟨oa, ho⟩ := ho
    exact lv_icmp_gt hx hb d ht (fun q => k.1 ((z_lt ob oa).mp q) pp ee RR ss mm aa bb me cc0 HH lc lsC c0 s0 ce se C hR hC hS hl ho hcu hsu) (fun q => k.2 (fun z => q ((z_lt ob oa).mpr z)) pp ee RR ss mm aa bb me cc0 HH lc lsC c0 s0 ce se C hR hC hS hl ho hcu hsu)
  · exact k.elim
theorem sd_icmp_le (m pc : Nat) (off : Int) (t : Nat) (ht : (pc : Int) + off = (t : Int)) (d : decode (mCod (Md m)) pc = .ok (.if_icmp .le off, 3)) : SM G Md D A l m pc (oCle t) := by
  refine ⟨mo_oCle t, fun ls st h Q k pp ee RR ss mm aa bb me cc0 HH lc lsC c0 s0 ce se C hR hC hS hl ho hcu hsu => ?_⟩
  obtain ⟨⟨hx, hb, hml, hown, hts⟩, hr, hlk, hnm, het, hRm, htr, hA, hG⟩ := id C
  unfold oCle at k
  split at k
  · next b a r =>
    replace ho := List.forall_mem_cons.mp ho
    obtain ⟨ob, ho⟩ := ho
    replace ho := List.forall_mem_cons.mp ho
    obtain ⟨oa, ho⟩ := ho
    exact lv_icmp_le hx hb d ht (fun q => k.1 ((z_le oa ob).mp q) pp ee RR ss mm aa bb me cc0 HH lc lsC c0 s0 ce se C hR hC hS hl ho hcu hsu) (fun q => k.2 (fun z => q ((z_le oa ob).mpr z)) pp ee RR ss mm aa bb me cc0 HH lc lsC c0 s0 ce se C hR hC hS hl ho hcu hsu)
  · exact k.elim
theorem sd_ifnull (m pc : Nat) (off : Int) (t : Nat) (ht : (pc : Int) + off = (t : Int)) (d : decode (mCod (Md m)) pc = .ok (.ifnull off, 3)) : SM G Md D A l m pc (oNul t) := by
  refine ⟨mo_oNul t, fun ls st h Q k pp ee RR ss mm aa bb me cc0 HH lc lsC c0 s0 ce se C hR hC hS hl ho hcu hsu => ?_⟩
  obtain ⟨⟨hx, hb, hml, hown, hts⟩, hr, hlk, hnm, het, hRm, htr, hA, hG⟩ := id C
  unfold oNul at k
  split at k
  · next a r =>
    replace ho := List.forall_mem_cons.mp ho
    obtain ⟨oa, ho⟩ := ho
    match a, k with
    | none, k => exact lv_ifnullN hx hb d ht (k.1 rfl pp ee RR ss mm aa bb me cc0 HH lc lsC c0 s0 ce se C hR hC hS hl ho hcu hsu)
    | some q, k => exact lv_ifnull hx hb d (k.2 (fun z => by cases z) pp ee RR ss mm aa bb me cc0 HH lc lsC c0 s0 ce se C hR hC hS hl ho hcu hsu)
  · exact k.elim
theorem sd_ifnonnull (m pc : Nat) (off : Int) (t : Nat) (ht : (pc : Int) + off = (t : Int)) (d : decode (mCod (Md m)) pc = .ok (.ifnonnull off, 3)) : SM G Md D A l m pc (oNNul t) := by
  refine ⟨mo_oNNul t, fun ls st h Q k pp ee RR ss mm aa bb me cc0 HH lc lsC c0 s0 ce se C hR hC hS hl ho hcu hsu => ?_⟩
  obtain ⟨⟨hx, hb, hml, hown, hts⟩, hr, hlk, hnm, het, hRm, htr, hA, hG⟩ := id C
  unfold oNNul at k
  split at k
  · next a r =>
    replace ho := List.forall_mem_cons.mp ho
    obtain ⟨oa, ho⟩ := ho
    match a, k with
    | none, k => exact lv_ifnonnullN hx hb d (k.1 rfl pp ee RR ss mm aa bb me cc0 HH lc lsC c0 s0 ce se C hR hC hS hl ho hcu hsu)
    | some q, k => exact lv_ifnonnull hx hb d ht (k.2 (fun z => by cases z) pp ee RR ss mm aa bb me cc0 HH lc lsC c0 s0 ce se C hR hC hS hl ho hcu hsu)
  · exact k.elim
theorem sd_goto (m pc : Nat) (off : Int) (t : Nat) (ht : (pc : Int) + off = (t : Int)) (d : decode (mCod (Md m)) pc = .ok (.goto off, 3)) : SM G Md D A l m pc (oGoto t) := by
  refine ⟨mo_oGoto t, fun ls st h Q k pp ee RR ss mm aa bb me cc0 HH lc lsC c0 s0 ce se C hR hC hS hl ho hcu hsu => ?_⟩
  obtain ⟨⟨hx, hb, hml, hown, hts⟩, hr, hlk, hnm, het, hRm, htr, hA, hG⟩ := id C
  unfold oGoto at k
  exact lv_goto hx hb d ht (k pp ee RR ss mm aa bb me cc0 HH lc lsC c0 s0 ce se C hR hC hS hl ho hcu hsu)
theorem swA_at {X : Nat → Prop} {x : Int} : ∀ (ts : List Nat) (lo : Int), swA X x lo ts → lo ≤ x → x < lo + ts.length → ∃ t, ts[(x - lo).toNat]? = some t ∧ X t
  | [], lo, _, h1, h2 => by simp at h2; omega
  | t :: r, lo, h, h1, h2 => by
    by_cases e : x = lo
    · exact ⟨t, by rw [e]; simp, h.1 e⟩
    · obtain ⟨t2, a, b⟩ := swA_at r (lo + 1) h.2 (by omega) (by simp at h2; omega)
      refine ⟨t2, ?_, b⟩
      rw [show (x - lo).toNat = (x - (lo + 1)).toNat + 1 by omega, List.getElem?_cons_succ]
      exact a
theorem sd_tableswitch (m pc : Nat) (dflt lo hi : Int) (offs : Array Int) (len : Nat) (ts : List Nat) (t : Nat) (ht : (pc : Int) + dflt = (t : Int)) (hhi : lo + ts.length = hi + 1) (hts2 : offs.toList.map (fun o => (pc : Int) + o) = ts.map (fun (x : Nat) => (x : Int))) (d : decode (mCod (Md m)) pc = .ok (.tableswitch dflt lo hi offs, len)) : SM G Md D A l m pc (oSw lo ts t) := by
  refine ⟨mo_oSw lo ts t, fun ls st h Q k pp ee RR ss mm aa bb me cc0 HH lc lsC c0 s0 ce se C hR hC hS hl ho hcu hsu => ?_⟩
  obtain ⟨⟨hx, hb, hml, hown, hts⟩, hr, hlk, hnm, het, hRm, htr, hA, hG⟩ := id C
  unfold oSw at k
  split at k
  · next x r =>
    replace ho := List.forall_mem_cons.mp ho
    obtain ⟨ox, ho⟩ := ho
    have e := z_ofI ox
    by_cases q : x < lo ∨ lo + ts.length ≤ x
    · exact lv_tableOut hx hb d (by rw [e]; omega) ht (k.1 q pp ee RR ss mm aa bb me cc0 HH lc lsC c0 s0 ce se C hR hC hS hl ho hcu hsu)
    · obtain ⟨t2, a, b⟩ := swA_at ts lo k.2 (by omega) (by omega)
      have a2 : (ts.map (fun (x : Nat) => (x : Int)))[(x - lo).toNat]? = some (t2 : Int) := by rw [List.getElem?_map, a]; rfl
      rw [← hts2, List.getElem?_map] at a2
      cases e3 : offs.toList[(x - lo).toNat]? with
      | none => rw [e3] at a2; cases a2
      | some o9 =>
        rw [e3] at a2
        exact lv_tableIn hx hb d (by rw [e]; omega) (by rw [e]; omega) (off := o9) (by rw [e, ← Array.getElem?_toList]; exact e3) (Option.some.inj a2) (b pp ee RR ss mm aa bb me cc0 HH lc lsC c0 s0 ce se C hR hC hS hl ho hcu hsu)
  · exact k.elim
end SD1
end
section
/-! SOUNDNESS of the instructions that read and write the memory -/
/-! arrays of int arrays: the rows that the kit's text has for objects -/
theorem z_asg (vm : Vm) (c : ClassId) : vm.assignable c c = true := Vm.assignable_self vm c
section SDA
variable {p : Program} {l : Launch} {e : Env} {R : Room} {s : State} {m : MethodId} {args : Array Value} {below : List Frame} {meth : Method} {c : Code} {H : Heap} {locs : List Loc} {cells slots : Nat} {Q : State → Prop}
variable {cc : ByteArray} {pc : Nat} {ls : Array Slot} {rest : List Value} {D : va_G} {cl : List vw_C} {A : Nat → Prop} {a : Nat} {tys : List (ClassId × FieldType)} {ws : va_W} {H0 : Heap}
theorem va_aldA (hexec : p.tables.exec = Jvm.exec) (hb : c.code = cc) (hK : va_K D cl tys s) (hP : va_P D cl ws H) (q0 t0 : Nat) {cA : ClassId} {n : Nat} {f : Nat → Option Nat} (ha : ws[q0]? = some (a, .inl (cA, n, .inr (.inr (.inr (.inr f)))))) (ht : tys[t0]? = some (cA, .array .int)) {i : Int32} (hin : vp_in i n) (hdg : decode cc pc = .ok (.aaload, 1))
    (kk : W p l e R s m args below meth c H locs cells slots Q (F0 m (pc + 1) ls (va_rf (f i.toNatClampNeg) :: rest))) : W p l e R s m args below meth c H locs cells slots Q (F0 m pc ls (.int i :: .ref a :: rest)) := by
  have hlt : i.toNatClampNeg < n := Nat.not_le.mp fun q => hin (Or.inr q)
  exact W.aald (v := va_rf (f i.toNatClampNeg)) (ty := .array .int) hexec hb (hP q0 _ ha) ((hK.2 t0 _ ht).1 n (fun j => va_rf (f j))) rfl (fun q => by cases q) (by show ¬ (i < 0 ∨ (arrV _ _ _).slots.size ≤ _); rw [arrV_size]; exact hin) (by show (arrV _ _ _).slots[_]? = _; rw [arrV_read _ _ hlt]) rfl rfl hdg kk
theorem va_astA (hover : va_AOA .int s) (hexec : p.tables.exec = Jvm.exec) (hb : c.code = cc) (hK : va_K D cl tys s) (hP : va_P D cl ws H) (hD : va_D A ws) (hS : va_S A H0 H locs) (q0 t0 qk tV : Nat) {cA cV : ClassId} {n v : Nat} {vv : vp_A} {f : Nat → Option Nat} (ha : ws[q0]? = some (a, .inl (cA, n, .inr (.inr (.inr (.inr f)))))) (ht : tys[t0]? = some (cA, .array .int)) (hv : ws[qk]? = some (v, .inl (cV, vv))) (htV : tys[tV]? = some (cV, .int)) {i : Int32} (hin : vp_in i n) (hdg : decode cc pc = .ok (.aastore, 1))
    (kk : ∀ (H1 : Heap) (locs1 : List Loc), va_P D cl (ws.set q0 (a, .inl (cA, n, .inr (.inr (.inr (.inr (va_up f i.toNatClampNeg (some v)))))))) H1 → va_D A (ws.set q0 (a, .inl (cA, n, .inr (.inr (.inr (.inr (va_up f i.toNatClampNeg (some v)))))))) → va_S A H0 H1 locs1 → W p l e R s m args below meth c H1 locs1 cells slots Q (F0 m (pc + 1) ls rest)) : W p l e R s m args below meth c H locs cells slots Q (F0 m pc ls (.ref v :: .int i :: .ref a :: rest)) := by
  have hlt : i.toNatClampNeg < n := Nat.not_le.mp fun q => hin (Or.inr q)
  have h0 : ¬ i < 0 := fun q => hin (Or.inl q)
  obtain ⟨comp, c2, kA, f1, -, f3, f4, f5⟩ := arrayOverA_spec hover
  have hcA : s.vm.findClass ("[" ++ (FieldType.array .int).toString) = some cA := (hK.2 t0 _ ht).2
  have hcV : s.vm.findClass ("[" ++ FieldType.int.toString) = some cV := (hK.2 tV _ htV).2
  cases Option.some.inj (f5.symm.trans hcA)
  have f1b : s.vm.findClass ("[" ++ FieldType.int.toString) = some comp := f1
  cases Option.some.inj (f1b.symm.trans hcV)
  obtain ⟨kV, hkV, -⟩ := Vm.findClass_spec hcV
  have hcell : H[v]? = some (vp_cell cV vv) := hP qk _ hv
  have hcls : (vp_cell cV vv).cls = cV ∧ (vp_cell cV vv).vm = .none := by
    obtain ⟨n2, g | g | g | g | g⟩ := vv <;> exact ⟨rfl, rfl⟩
  refine W.aast hexec hb (hP q0 _ ha) (fun q h => by cases h) (fun h => by cases h) f3 f4 rfl hkV ⟨h0, by show _ < (arrV _ _ _).slots.size; rw [arrV_size]; exact hlt⟩ hcell (fun q h => by rw [hcls.2] at h; cases h) (by rw [hcls.1]; exact hkV) (by rw [hcls.1]; exact z_asg _ _) rfl rfl hdg fun H1 e z oq => ?_
  refine kk H1 _ (hP.set hD ha ?_ oq) (hD.set ha) (hS.put z oq (hD.2 q0 _ ha))
  show H1[a]? = some (vp_cell _ _)
  rw [e]
  rw [vp_cell_q, vp_cell_q, arrV_store]
  congr 2
  funext q
  by_cases hq : q = i.toNatClampNeg
  · subst hq
    simp [updV, va_up, va_rf]
  · simp [updV, va_up, hq]
end SDA
theorem akE_n (h : Zh) (a c : Nat) : (akE h a c).1 = (gL h a).toNat := by unfold akE; split <;> rfl
theorem isE_congr {h g : Zh} {tys : List (ClassId × FieldType)} {b : Nat} {e : va_E} (h1 : gK g b = gK h b) (h2 : gL g b = gL h b) (h3 : ∀ i, gI g b i = gI h b i) (h4 : ∀ i, gR g b i = gR h b i) (h5 : ∀ i, gJ g b i = gJ h b i) (k : isE h tys b e) : isE g tys b e := by
  have e1 : ∀ c, encF g b c = encF h b c := fun c => by unfold encF; simp only [h3, h4]
  have e2 : ∀ c, akE g b c = akE h b c := fun c => by unfold akE; simp only [h2, h3, h4, h5]
  unfold isE at k ⊢
  rw [h1]
  simp only [e1, e2]
  exact k
theorem inW_set {h g : Zh} {tys : List (ClassId × FieldType)} {ws : va_W} {q0 a : Nat} {e0 e1 : va_E} (hI : inW h tys ws) (he : ws[q0]? = some (a, e0)) (hk : ∀ b, gK g b = gK h b) (hl : ∀ b, gL g b = gL h b) (h3 : ∀ b, b ≠ a → ∀ i, gI g b i = gI h b i) (h4 : ∀ b, b ≠ a → ∀ i, gR g b i = gR h b i) (h5 : ∀ b, b ≠ a → ∀ i, gJ g b i = gJ h b i) (hE : isE g tys a e1) : inW g tys (ws.set q0 (a, e1)) := by
  intro b hb0 hb1
  rw [hk] at hb0 hb1
  have hq : q0 < ws.length := (List.getElem?_eq_some_iff.mp he).1
  by_cases q : b = a
  · subst q
    exact ⟨q0, e1, by rw [List.getElem?_set_self hq], hE⟩
  · obtain ⟨k, e, hk1, hk2⟩ := hI b hb0 hb1
    have n : q0 ≠ k := fun z => by rw [← z, he] at hk1; cases hk1; exact q rfl
    exact ⟨k, e, by rw [List.getElem?_set_ne n]; exact hk1, isE_congr (hk b) (hl b) (h3 b q) (h4 b q) (h5 b q) hk2⟩
theorem SC.congr {A : Nat → Prop} {h g : Zh} {s : State} (k : SC A h s) (h1 : ∀ b, gK g b = 15 → gK h b = 15 ∧ gL g b = gL h b ∧ ∀ i, gI g b i = gI h b i) : SC A g s := by
  intro a ha
  obtain ⟨e1, e2, e3⟩ := h1 a ha
  have z := k a e1
  rw [e2, show (fun j : Nat => Int32.ofInt (gI g a j)) = (fun j : Nat => Int32.ofInt (gI h a j)) from funext fun j => by rw [e3]]
  exact z
theorem encF_at (h : Zh) (a c k : Nat) (hk : k < nF c) : (encF h a c)[k]? = some (if fR c k = true then va_rf (gR h a k) else Value.int (Int32.ofInt (gI h a k))) := by
  unfold encF
  rw [List.getElem?_map, List.getElem?_range hk]
  rfl
theorem encF_len (h : Zh) (a c : Nat) : (encF h a c).length = nF c := by unfold encF; rw [List.length_map, List.length_range]
theorem encF_pI {h : Zh} {a c k : Nat} {x : Int} (hk : k < nF c) (hf : fR c k = false) : encF (pI h a k x) a c = (encF h a c).set k (.int (Int32.ofInt x)) := by
  apply List.ext_getElem?
  intro j
  by_cases hj : j < nF c
  · rw [encF_at _ _ _ _ hj]
    by_cases q : k = j
    · subst q
      rw [List.getElem?_set_self (by rw [encF_len]; exact hj), hf]
      simp [gI_pI]
    · rw [List.getElem?_set_ne q, encF_at _ _ _ _ hj, gI_pI, gR_pI, if_neg (show ¬ (a = a ∧ ((j : Nat) : Int) = ((k : Nat) : Int)) from fun z => q (by have := z.2; omega))]
  · rw [List.getElem?_eq_none (by rw [encF_len]; omega), List.getElem?_eq_none (by rw [List.length_set, encF_len]; omega)]
theorem encF_pR {h : Zh} {a c k : Nat} {x : Option Nat} (hk : k < nF c) (hf : fR c k = true) : encF (pR h a k x) a c = (encF h a c).set k (va_rf x) := by
  apply List.ext_getElem?
  intro j
  by_cases hj : j < nF c
  · rw [encF_at _ _ _ _ hj]
    by_cases q : k = j
    · subst q
      rw [List.getElem?_set_self (by rw [encF_len]; exact hj), hf]
      simp [gR_pR]
    · rw [List.getElem?_set_ne q, encF_at _ _ _ _ hj, gI_pR, gR_pR, if_neg (show ¬ (a = a ∧ ((j : Nat) : Int) = ((k : Nat) : Int)) from fun z => q (by have := z.2; omega))]
  · rw [List.getElem?_eq_none (by rw [encF_len]; omega), List.getElem?_eq_none (by rw [List.length_set, encF_len]; omega)]
theorem okh_pI {h : Zh} {a : Nat} {k x : Int} (ho : okh h) (hx : inR x) : okh (pI h a k x) := ⟨fun b i => by rw [gI_pI]; split; exact hx; exact ho.1 b i, ho.2.1, ho.2.2⟩
theorem okh_pR {h : Zh} {a : Nat} {k : Int} {x : Option Nat} (ho : okh h) : okh (pR h a k x) := ⟨fun b i => by rw [gI_pR]; exact ho.1 b i, ho.2.1, ho.2.2⟩
theorem okh_pJ {h : Zh} {a : Nat} {k : Int} {x : Int64} (ho : okh h) : okh (pJ h a k x) := ⟨fun b i => by rw [gI_pJ]; exact ho.1 b i, ho.2.1, ho.2.2⟩
theorem SC_pI {A : Nat → Prop} {h : Zh} {a : Nat} {k x : Int} {s : State} (hC : SC A h s) (ha : gK h a ≠ 15) : SC A (pI h a k x) s := hC.congr fun b hb => ⟨hb, rfl, fun i => by rw [gI_pI, if_neg (fun z => ha (by rw [← z.1]; exact hb))]⟩
theorem SC_pR {A : Nat → Prop} {h : Zh} {a : Nat} {k : Int} {x : Option Nat} {s : State} (hC : SC A h s) : SC A (pR h a k x) s := hC.congr fun b hb => ⟨hb, rfl, fun i => rfl⟩
theorem SC_pJ {A : Nat → Prop} {h : Zh} {a : Nat} {k : Int} {x : Int64} {s : State} (hC : SC A h s) : SC A (pJ h a k x) s := hC.congr fun b hb => ⟨hb, rfl, fun i => rfl⟩
theorem isE_arr {h : Zh} {tys : List (ClassId × FieldType)} {a : Nat} {e : va_E} {c : Nat} (k : isE h tys a e) (hc : gK h a = c) (h10 : 10 ≤ c) : ∃ (cA : ClassId) (t : Nat), e = .inl (cA, akE h a c) ∧ tys[t]? = some (cA, akT c) := by
  subst hc
  exact k.2 h10
theorem isE_obj {h : Zh} {tys : List (ClassId × FieldType)} {a : Nat} {e : va_E} {c : Nat} (k : isE h tys a e) (hc : gK h a = c) (h7 : c ≤ 7) : e = .inr (c - 1, encF h a c) := by
  subst hc
  exact k.1 h7
theorem isE_mkA {h : Zh} {tys : List (ClassId × FieldType)} {a : Nat} {e : va_E} {c : Nat} (hc : gK h a = c) (h10 : 10 ≤ c) (cA : ClassId) (t : Nat) (h1 : e = .inl (cA, akE h a c)) (h2 : tys[t]? = some (cA, akT c)) : isE h tys a e := by
  subst hc
  exact ⟨fun z => by omega, fun _ => ⟨cA, t, h1, h2⟩⟩
theorem isE_mkO {h : Zh} {tys : List (ClassId × FieldType)} {a : Nat} {e : va_E} {c : Nat} (hc : gK h a = c) (h7 : c ≤ 7) (h1 : e = .inr (c - 1, encF h a c)) : isE h tys a e := by
  subst hc
  exact ⟨fun _ => h1, fun z => by omega⟩
section SD2
variable {G : GwT} {Md : Nat → MdT} {D : va_G} {A : Nat → Prop} {l : Launch}
theorem sd_oGetI (m pc : Nat) (c fk ix : Nat) (C : String) (T : u_T) (N : Nat) (hcl : vwCl[c - 1]? = some (C, T, N)) (hc : 1 ≤ c ∧ c ≤ 7) (hN : nF c = N) (hfk : fk < N) (hT : (T fk).1 = C) (hin : ∀ w ∈ u_ws C T N, w ∈ mWs (Md m)) (hf : fR c fk = false) (hw : Cond.fieldLink (mOwn (Md m)) ix C (T fk).2.1 (T fk).2.2.1 ∈ mWs (Md m)) (d : decode (mCod (Md m)) pc = .ok (.getfield ix, 3)) : SM G Md D A l m pc (oGetI c fk) := by
  refine ⟨mo_oGetI c fk, fun ls st h Q k pp ee RR ss mm aa bb me cc0 HH lc lsC c0 s0 ce se C0 hR hC hS hl ho hcu hsu => ?_⟩
  obtain ⟨⟨hx, hb, hml, hown, hts⟩, hr, hlk, hnm, het, hRm, htr, hA, hG⟩ := id C0
  unfold oGetI at k
  split at k
  · next r t =>
    obtain ⟨⟨a, rfl, ha⟩, k⟩ := k
    replace ho := List.forall_mem_cons.mp ho
    obtain ⟨-, ho⟩ := ho
    obtain ⟨hok, ws, tys, hP, hD, hKK, hI⟩ := id hR
    obtain ⟨q0, e, he, hE⟩ := hI a (by omega) (by omega)
    have he2 := isE_obj hE ha hc.2
    subst he2
    have hv := encF_at h a c fk (by omega)
    rw [hf] at hv
    exact va_get hx hb hts hin hown hKK hP q0 he hcl fk hfk (hts _ hw) (fun _ z => by rw [hT] at z; exact z) hv d (k pp ee RR ss mm aa bb me cc0 HH lc lsC c0 s0 ce se C0 hR hC hS hl (List.forall_mem_cons.mpr ⟨hok.1 a fk, ho⟩) hcu hsu)
  · exact k.elim
theorem sd_oGetIN (m pc : Nat) (c fk ix : Nat) (C : String) (T : u_T) (N : Nat) (hcl : vwCl[c - 1]? = some (C, T, N)) (hc : 1 ≤ c ∧ c ≤ 7) (hN : nF c = N) (hfk : fk < N) (hT : (T fk).1 = C) (hin : ∀ w ∈ u_ws C T N, w ∈ mWs (Md m)) (hf : fR c fk = false) (host : String) (hw : (mOwn (Md m), ix, C, (T fk).2.1, (T fk).2.2.1, host) ∈ G.2.2.2.1) (d : decode (mCod (Md m)) pc = .ok (.getfield ix, 3)) : SM G Md D A l m pc (oGetI c fk) := by
  refine ⟨mo_oGetI c fk, fun ls st h Q k pp ee RR ss mm aa bb me cc0 HH lc lsC c0 s0 ce se C0 hR hC hS hl ho hcu hsu => ?_⟩
  obtain ⟨⟨hx, hb, hml, hown, hts⟩, hr, hlk, hnm, het, hRm, htr, hA, hG⟩ := id C0
  unfold oGetI at k
  split at k
  · next r t =>
    obtain ⟨⟨a, rfl, ha⟩, k⟩ := k
    replace ho := List.forall_mem_cons.mp ho
    obtain ⟨-, ho⟩ := ho
    obtain ⟨hok, ws, tys, hP, hD, hKK, hI⟩ := id hR
    obtain ⟨q0, e, he, hE⟩ := hI a (by omega) (by omega)
    have he2 := isE_obj hE ha hc.2
    subst he2
    have hv := encF_at h a c fk (by omega)
    rw [hf] at hv
    exact va_getN hx hb hts hin hown hKK hP q0 he hcl fk hfk (va_Nw.use rfl (hG.2.2.2.2.2.1 _ hw)) (fun _ z => by rw [hT] at z; exact z) hv d (k pp ee RR ss mm aa bb me cc0 HH lc lsC c0 s0 ce se C0 hR hC hS hl (List.forall_mem_cons.mpr ⟨hok.1 a fk, ho⟩) hcu hsu)
  · exact k.elim
theorem sd_oGetR (m pc : Nat) (c fk ix : Nat) (C : String) (T : u_T) (N : Nat) (hcl : vwCl[c - 1]? = some (C, T, N)) (hc : 1 ≤ c ∧ c ≤ 7) (hN : nF c = N) (hfk : fk < N) (hT : (T fk).1 = C) (hin : ∀ w ∈ u_ws C T N, w ∈ mWs (Md m)) (hf : fR c fk = true) (hw : Cond.fieldLink (mOwn (Md m)) ix C (T fk).2.1 (T fk).2.2.1 ∈ mWs (Md m)) (d : decode (mCod (Md m)) pc = .ok (.getfield ix, 3)) : SM G Md D A l m pc (oGetR c fk) := by
  refine ⟨mo_oGetR c fk, fun ls st h Q k pp ee RR ss mm aa bb me cc0 HH lc lsC c0 s0 ce se C0 hR hC hS hl ho hcu hsu => ?_⟩
  obtain ⟨⟨hx, hb, hml, hown, hts⟩, hr, hlk, hnm, het, hRm, htr, hA, hG⟩ := id C0
  unfold oGetR at k
  split at k
  · next r t =>
    obtain ⟨⟨a, rfl, ha⟩, k⟩ := k
    replace ho := List.forall_mem_cons.mp ho
    obtain ⟨-, ho⟩ := ho
    obtain ⟨hok, ws, tys, hP, hD, hKK, hI⟩ := id hR
    obtain ⟨q0, e, he, hE⟩ := hI a (by omega) (by omega)
    have he2 := isE_obj hE ha hc.2
    subst he2
    have hv := encF_at h a c fk (by omega)
    rw [hf] at hv
    exact va_get hx hb hts hin hown hKK hP q0 he hcl fk hfk (hts _ hw) (fun _ z => by rw [hT] at z; exact z) hv d (k pp ee RR ss mm aa bb me cc0 HH lc lsC c0 s0 ce se C0 hR hC hS hl (List.forall_mem_cons.mpr ⟨trivial, ho⟩) hcu hsu)
  · exact k.elim
theorem sd_oGetRN (m pc : Nat) (c fk ix : Nat) (C : String) (T : u_T) (N : Nat) (hcl : vwCl[c - 1]? = some (C, T, N)) (hc : 1 ≤ c ∧ c ≤ 7) (hN : nF c = N) (hfk : fk < N) (hT : (T fk).1 = C) (hin : ∀ w ∈ u_ws C T N, w ∈ mWs (Md m)) (hf : fR c fk = true) (host : String) (hw : (mOwn (Md m), ix, C, (T fk).2.1, (T fk).2.2.1, host) ∈ G.2.2.2.1) (d : decode (mCod (Md m)) pc = .ok (.getfield ix, 3)) : SM G Md D A l m pc (oGetR c fk) := by
  refine ⟨mo_oGetR c fk, fun ls st h Q k pp ee RR ss mm aa bb me cc0 HH lc lsC c0 s0 ce se C0 hR hC hS hl ho hcu hsu => ?_⟩
  obtain ⟨⟨hx, hb, hml, hown, hts⟩, hr, hlk, hnm, het, hRm, htr, hA, hG⟩ := id C0
  unfold oGetR at k
  split at k
  · next r t =>
    obtain ⟨⟨a, rfl, ha⟩, k⟩ := k
    replace ho := List.forall_mem_cons.mp ho
    obtain ⟨-, ho⟩ := ho
    obtain ⟨hok, ws, tys, hP, hD, hKK, hI⟩ := id hR
    obtain ⟨q0, e, he, hE⟩ := hI a (by omega) (by omega)
    have he2 := isE_obj hE ha hc.2
    subst he2
    have hv := encF_at h a c fk (by omega)
    rw [hf] at hv
    exact va_getN hx hb hts hin hown hKK hP q0 he hcl fk hfk (va_Nw.use rfl (hG.2.2.2.2.2.1 _ hw)) (fun _ z => by rw [hT] at z; exact z) hv d (k pp ee RR ss mm aa bb me cc0 HH lc lsC c0 s0 ce se C0 hR hC hS hl (List.forall_mem_cons.mpr ⟨trivial, ho⟩) hcu hsu)
  · exact k.elim
theorem sd_oPutI (m pc : Nat) (c fk ix : Nat) (C : String) (T : u_T) (N : Nat) (hcl : vwCl[c - 1]? = some (C, T, N)) (hc : 1 ≤ c ∧ c ≤ 7) (hN : nF c = N) (hfk : fk < N) (hT : (T fk).1 = C) (hin : ∀ w ∈ u_ws C T N, w ∈ mWs (Md m)) (hf : fR c fk = false) (ty0 : Nat → FieldType) (hty : ∀ k, k < N → parseFieldDescriptor (T k).2.2.1 = some (ty0 k)) (hnm2 : ∀ a, a < N → ∀ b, b < N → a ≠ b → (T a).2.1 ≠ (T b).2.1) (htk : ty0 fk = .int) (hfin : (T fk).2.2.2 = false) (hw : Cond.fieldLink (mOwn (Md m)) ix C (T fk).2.1 (T fk).2.2.1 ∈ mWs (Md m)) (d : decode (mCod (Md m)) pc = .ok (.putfield ix, 3)) : SM G Md D A l m pc (oPutI c fk) := by
  refine ⟨mo_oPutI c fk, fun ls st h Q k pp ee RR ss mm aa bb me cc0 HH lc lsC c0 s0 ce se C0 hR hC hS hl ho hcu hsu => ?_⟩
  obtain ⟨⟨hx, hb, hml, hown, hts⟩, hr, hlk, hnm, het, hRm, htr, hA, hG⟩ := id C0
  unfold oPutI at k
  split at k
  · next x r t =>
    obtain ⟨⟨a, rfl, ha⟩, k⟩ := k
    replace ho := List.forall_mem_cons.mp ho
    obtain ⟨ox, ho⟩ := ho
    replace ho := List.forall_mem_cons.mp ho
    obtain ⟨-, ho⟩ := ho
    obtain ⟨hok, ws, tys, hP, hD, hKK, hI⟩ := id hR
    obtain ⟨q0, e, he, hE⟩ := hI a (by omega) (by omega)
    have he2 := isE_obj hE ha hc.2
    subst he2
    refine va_put hx hb hts hin ty0 hty hnm2 hown hKK hP hD hS q0 he hcl fk hfk (hts _ hw) (fun _ z => by rw [hT] at z; exact z) hfin (hty fk hfk) (v := .int (Int32.ofInt x)) (by rw [htk]; rfl) (by rw [htk]; rfl) (by rw [encF_len]; omega) d (fun H1 lc1 hP1 hD1 hS1 => ?_)
    rw [← encF_pI (by omega) hf] at hP1 hD1
    refine k pp ee RR ss mm aa bb me cc0 H1 lc1 lsC c0 s0 ce se C0 ⟨okh_pI hok ox, _, tys, hP1, hD1, hKK, inW_set hI he (fun _ => rfl) (fun _ => rfl) (fun b nb i => by rw [gI_pI, if_neg (fun z => nb z.1)]) (fun b nb i => rfl) (fun _ _ _ => rfl) (isE_mkO (c := c) ha hc.2 rfl)⟩ (SC_pI (a := a) hC (by omega)) hS1 hl ho hcu hsu
  · exact k.elim
theorem sd_oPutIF (m pc : Nat) (c fk ix : Nat) (C : String) (T : u_T) (N : Nat) (hcl : vwCl[c - 1]? = some (C, T, N)) (hc : 1 ≤ c ∧ c ≤ 7) (hN : nF c = N) (hfk : fk < N) (hT : (T fk).1 = C) (hin : ∀ w ∈ u_ws C T N, w ∈ mWs (Md m)) (hf : fR c fk = false) (ty0 : Nat → FieldType) (hty : ∀ k, k < N → parseFieldDescriptor (T k).2.2.1 = some (ty0 k)) (hnm2 : ∀ a, a < N → ∀ b, b < N → a ≠ b → (T a).2.1 ≠ (T b).2.1) (htk : ty0 fk = .int) (hfin : (T fk).2.2.2 = true) (hini : (mNam (Md m)).name = "<init>") (hdecl : C = mOwn (Md m)) (hw : Cond.fieldLink (mOwn (Md m)) ix C (T fk).2.1 (T fk).2.2.1 ∈ mWs (Md m)) (d : decode (mCod (Md m)) pc = .ok (.putfield ix, 3)) : SM G Md D A l m pc (oPutI c fk) := by
  refine ⟨mo_oPutI c fk, fun ls st h Q k pp ee RR ss mm aa bb me cc0 HH lc lsC c0 s0 ce se C0 hR hC hS hl ho hcu hsu => ?_⟩
  obtain ⟨⟨hx, hb, hml, hown, hts⟩, hr, hlk, hnm, het, hRm, htr, hA, hG⟩ := id C0
  unfold oPutI at k
  split at k
  · next x r t =>
    obtain ⟨⟨a, rfl, ha⟩, k⟩ := k
    replace ho := List.forall_mem_cons.mp ho
    obtain ⟨ox, ho⟩ := ho
    replace ho := List.forall_mem_cons.mp ho
    obtain ⟨-, ho⟩ := ho
    obtain ⟨hok, ws, tys, hP, hD, hKK, hI⟩ := id hR
    obtain ⟨q0, e, he, hE⟩ := hI a (by omega) (by omega)
    have he2 := isE_obj hE ha hc.2
    subst he2
    refine va_putF hx hb hts hin ty0 hty hnm2 hown hKK hP hD hS q0 he hcl fk hfk (hts _ hw) (fun _ z => by rw [hT] at z; exact z) hfin (by rw [hnm]; exact hini) (by rw [hT]; exact hdecl) (hty fk hfk) (v := .int (Int32.ofInt x)) (by rw [htk]; rfl) (by rw [htk]; rfl) (by rw [encF_len]; omega) d (fun H1 lc1 hP1 hD1 hS1 => ?_)
    rw [← encF_pI (by omega) hf] at hP1 hD1
    refine k pp ee RR ss mm aa bb me cc0 H1 lc1 lsC c0 s0 ce se C0 ⟨okh_pI hok ox, _, tys, hP1, hD1, hKK, inW_set hI he (fun _ => rfl) (fun _ => rfl) (fun b nb i => by rw [gI_pI, if_neg (fun z => nb z.1)]) (fun b nb i => rfl) (fun _ _ _ => rfl) (isE_mkO (c := c) ha hc.2 rfl)⟩ (SC_pI (a := a) hC (by omega)) hS1 hl ho hcu hsu
  · exact k.elim
theorem sd_oPutIN (m pc : Nat) (c fk ix : Nat) (C : String) (T : u_T) (N : Nat) (hcl : vwCl[c - 1]? = some (C, T, N)) (hc : 1 ≤ c ∧ c ≤ 7) (hN : nF c = N) (hfk : fk < N) (hT : (T fk).1 = C) (hin : ∀ w ∈ u_ws C T N, w ∈ mWs (Md m)) (hf : fR c fk = false) (ty0 : Nat → FieldType) (hty : ∀ k, k < N → parseFieldDescriptor (T k).2.2.1 = some (ty0 k)) (hnm2 : ∀ a, a < N → ∀ b, b < N → a ≠ b → (T a).2.1 ≠ (T b).2.1) (htk : ty0 fk = .int) (hfin : (T fk).2.2.2 = false) (host : String) (hw : (mOwn (Md m), ix, C, (T fk).2.1, (T fk).2.2.1, host) ∈ G.2.2.2.1) (d : decode (mCod (Md m)) pc = .ok (.putfield ix, 3)) : SM G Md D A l m pc (oPutI c fk) := by
  refine ⟨mo_oPutI c fk, fun ls st h Q k pp ee RR ss mm aa bb me cc0 HH lc lsC c0 s0 ce se C0 hR hC hS hl ho hcu hsu => ?_⟩
  obtain ⟨⟨hx, hb, hml, hown, hts⟩, hr, hlk, hnm, het, hRm, htr, hA, hG⟩ := id C0
  unfold oPutI at k
  split at k
  · next x r t =>
    obtain ⟨⟨a, rfl, ha⟩, k⟩ := k
    replace ho := List.forall_mem_cons.mp ho
    obtain ⟨ox, ho⟩ := ho
    replace ho := List.forall_mem_cons.mp ho
    obtain ⟨-, ho⟩ := ho
    obtain ⟨hok, ws, tys, hP, hD, hKK, hI⟩ := id hR
    obtain ⟨q0, e, he, hE⟩ := hI a (by omega) (by omega)
    have he2 := isE_obj hE ha hc.2
    subst he2
    refine va_putN hx hb hts hin ty0 hty hnm2 hown hKK hP hD hS q0 he hcl fk hfk (va_Nw.use rfl (hG.2.2.2.2.2.1 _ hw)) (fun _ z => by rw [hT] at z; exact z) hfin (hty fk hfk) (v := .int (Int32.ofInt x)) (by rw [htk]; rfl) (by rw [htk]; rfl) (by rw [encF_len]; omega) d (fun H1 lc1 hP1 hD1 hS1 => ?_)
    rw [← encF_pI (by omega) hf] at hP1 hD1
    refine k pp ee RR ss mm aa bb me cc0 H1 lc1 lsC c0 s0 ce se C0 ⟨okh_pI hok ox, _, tys, hP1, hD1, hKK, inW_set hI he (fun _ => rfl) (fun _ => rfl) (fun b nb i => by rw [gI_pI, if_neg (fun z => nb z.1)]) (fun b nb i => rfl) (fun _ _ _ => rfl) (isE_mkO (c := c) ha hc.2 rfl)⟩ (SC_pI (a := a) hC (by omega)) hS1 hl ho hcu hsu
  · exact k.elim
theorem sd_oPutZ (m pc : Nat) (c fk ix : Nat) (C : String) (T : u_T) (N : Nat) (hcl : vwCl[c - 1]? = some (C, T, N)) (hc : 1 ≤ c ∧ c ≤ 7) (hN : nF c = N) (hfk : fk < N) (hT : (T fk).1 = C) (hin : ∀ w ∈ u_ws C T N, w ∈ mWs (Md m)) (hf : fR c fk = false) (ty0 : Nat → FieldType) (hty : ∀ k, k < N → parseFieldDescriptor (T k).2.2.1 = some (ty0 k)) (hnm2 : ∀ a, a < N → ∀ b, b < N → a ≠ b → (T a).2.1 ≠ (T b).2.1) (htk : ty0 fk = .boolean) (hfin : (T fk).2.2.2 = false) (hw : Cond.fieldLink (mOwn (Md m)) ix C (T fk).2.1 (T fk).2.2.1 ∈ mWs (Md m)) (d : decode (mCod (Md m)) pc = .ok (.putfield ix, 3)) : SM G Md D A l m pc (oPutZ c fk) := by
  refine ⟨mo_oPutZ c fk, fun ls st h Q k pp ee RR ss mm aa bb me cc0 HH lc lsC c0 s0 ce se C0 hR hC hS hl ho hcu hsu => ?_⟩
  obtain ⟨⟨hx, hb, hml, hown, hts⟩, hr, hlk, hnm, het, hRm, htr, hA, hG⟩ := id C0
  unfold oPutZ at k
  split at k
  · next x r t =>
    obtain ⟨⟨⟨a, rfl, ha⟩, h01⟩, k⟩ := k
    replace ho := List.forall_mem_cons.mp ho
    obtain ⟨ox, ho⟩ := ho
    replace ho := List.forall_mem_cons.mp ho
    obtain ⟨-, ho⟩ := ho
    obtain ⟨hok, ws, tys, hP, hD, hKK, hI⟩ := id hR
    obtain ⟨q0, e, he, hE⟩ := hI a (by omega) (by omega)
    have he2 := isE_obj hE ha hc.2
    subst he2
    refine va_put hx hb hts hin ty0 hty hnm2 hown hKK hP hD hS q0 he hcl fk hfk (hts _ hw) (fun _ z => by rw [hT] at z; exact z) hfin (hty fk hfk) (v := .int (Int32.ofInt x)) (by rw [htk]; rcases h01 with rfl | rfl <;> rfl) (by rw [htk]; rcases h01 with rfl | rfl <;> rfl) (by rw [encF_len]; omega) d (fun H1 lc1 hP1 hD1 hS1 => ?_)
    rw [← encF_pI (by omega) hf] at hP1 hD1
    refine k pp ee RR ss mm aa bb me cc0 H1 lc1 lsC c0 s0 ce se C0 ⟨okh_pI hok ox, _, tys, hP1, hD1, hKK, inW_set hI he (fun _ => rfl) (fun _ => rfl) (fun b nb i => by rw [gI_pI, if_neg (fun z => nb z.1)]) (fun b nb i => rfl) (fun _ _ _ => rfl) (isE_mkO (c := c) ha hc.2 rfl)⟩ (SC_pI (a := a) hC (by omega)) hS1 hl ho hcu hsu
  · exact k.elim
theorem sd_oPutZF (m pc : Nat) (c fk ix : Nat) (C : String) (T : u_T) (N : Nat) (hcl : vwCl[c - 1]? = some (C, T, N)) (hc : 1 ≤ c ∧ c ≤ 7) (hN : nF c = N) (hfk : fk < N) (hT : (T fk).1 = C) (hin : ∀ w ∈ u_ws C T N, w ∈ mWs (Md m)) (hf : fR c fk = false) (ty0 : Nat → FieldType) (hty : ∀ k, k < N → parseFieldDescriptor (T k).2.2.1 = some (ty0 k)) (hnm2 : ∀ a, a < N → ∀ b, b < N → a ≠ b → (T a).2.1 ≠ (T b).2.1) (htk : ty0 fk = .boolean) (hfin : (T fk).2.2.2 = true) (hini : (mNam (Md m)).name = "<init>") (hdecl : C = mOwn (Md m)) (hw : Cond.fieldLink (mOwn (Md m)) ix C (T fk).2.1 (T fk).2.2.1 ∈ mWs (Md m)) (d : decode (mCod (Md m)) pc = .ok (.putfield ix, 3)) : SM G Md D A l m pc (oPutZ c fk) := by
  refine ⟨mo_oPutZ c fk, fun ls st h Q k pp ee RR ss mm aa bb me cc0 HH lc lsC c0 s0 ce se C0 hR hC hS hl ho hcu hsu => ?_⟩
  obtain ⟨⟨hx, hb, hml, hown, hts⟩, hr, hlk, hnm, het, hRm, htr, hA, hG⟩ := id C0
  unfold oPutZ at k
  split at k
  · next x r t =>
    obtain ⟨⟨⟨a, rfl, ha⟩, h01⟩, k⟩ := k
    replace ho := List.forall_mem_cons.mp ho
    obtain ⟨ox, ho⟩ := ho
    replace ho := List.forall_mem_cons.mp ho
    obtain ⟨-, ho⟩ := ho
    obtain ⟨hok, ws, tys, hP, hD, hKK, hI⟩ := id hR
    obtain ⟨q0, e, he, hE⟩ := hI a (by omega) (by omega)
    have he2 := isE_obj hE ha hc.2
    subst he2
    refine va_putF hx hb hts hin ty0 hty hnm2 hown hKK hP hD hS q0 he hcl fk hfk (hts _ hw) (fun _ z => by rw [hT] at z; exact z) hfin (by rw [hnm]; exact hini) (by rw [hT]; exact hdecl) (hty fk hfk) (v := .int (Int32.ofInt x)) (by rw [htk]; rcases h01 with rfl | rfl <;> rfl) (by rw [htk]; rcases h01 with rfl | rfl <;> rfl) (by rw [encF_len]; omega) d (fun H1 lc1 hP1 hD1 hS1 => ?_)
    rw [← encF_pI (by omega) hf] at hP1 hD1
    refine k pp ee RR ss mm aa bb me cc0 H1 lc1 lsC c0 s0 ce se C0 ⟨okh_pI hok ox, _, tys, hP1, hD1, hKK, inW_set hI he (fun _ => rfl) (fun _ => rfl) (fun b nb i => by rw [gI_pI, if_neg (fun z => nb z.1)]) (fun b nb i => rfl) (fun _ _ _ => rfl) (isE_mkO (c := c) ha hc.2 rfl)⟩ (SC_pI (a := a) hC (by omega)) hS1 hl ho hcu hsu
  · exact k.elim
theorem sd_oPutZN (m pc : Nat) (c fk ix : Nat) (C : String) (T : u_T) (N : Nat) (hcl : vwCl[c - 1]? = some (C, T, N)) (hc : 1 ≤ c ∧ c ≤ 7) (hN : nF c = N) (hfk : fk < N) (hT : (T fk).1 = C) (hin : ∀ w ∈ u_ws C T N, w ∈ mWs (Md m)) (hf : fR c fk = false) (ty0 : Nat → FieldType) (hty : ∀ k, k < N → parseFieldDescriptor (T k).2.2.1 = some (ty0 k)) (hnm2 : ∀ a, a < N → ∀ b, b < N → a ≠ b → (T a).2.1 ≠ (T b).2.1) (htk : ty0 fk = .boolean) (hfin : (T fk).2.2.2 = false) (host : String) (hw : (mOwn (Md m), ix, C, (T fk).2.1, (T fk).2.2.1, host) ∈ G.2.2.2.1) (d : decode (mCod (Md m)) pc = .ok (.putfield ix, 3)) : SM G Md D A l m pc (oPutZ c fk) := by
  refine ⟨mo_oPutZ c fk, fun ls st h Q k pp ee RR ss mm aa bb me cc0 HH lc lsC c0 s0 ce se C0 hR hC hS hl ho hcu hsu => ?_⟩
  obtain ⟨⟨hx, hb, hml, hown, hts⟩, hr, hlk, hnm, het, hRm, htr, hA, hG⟩ := id C0
  unfold oPutZ at k
  split at k
  · next x r t =>
    obtain ⟨⟨⟨a, rfl, ha⟩, h01⟩, k⟩ := k
    replace ho := List.forall_mem_cons.mp ho
    obtain ⟨ox, ho⟩ := ho
    replace ho := List.forall_mem_cons.mp ho
    obtain ⟨-, ho⟩ := ho
    obtain ⟨hok, ws, tys, hP, hD, hKK, hI⟩ := id hR
    obtain ⟨q0, e, he, hE⟩ := hI a (by omega) (by omega)
    have he2 := isE_obj hE ha hc.2
    subst he2
    refine va_putN hx hb hts hin ty0 hty hnm2 hown hKK hP hD hS q0 he hcl fk hfk (va_Nw.use rfl (hG.2.2.2.2.2.1 _ hw)) (fun _ z => by rw [hT] at z; exact z) hfin (hty fk hfk) (v := .int (Int32.ofInt x)) (by rw [htk]; rcases h01 with rfl | rfl <;> rfl) (by rw [htk]; rcases h01 with rfl | rfl <;> rfl) (by rw [encF_len]; omega) d (fun H1 lc1 hP1 hD1 hS1 => ?_)
    rw [← encF_pI (by omega) hf] at hP1 hD1
    refine k pp ee RR ss mm aa bb me cc0 H1 lc1 lsC c0 s0 ce se C0 ⟨okh_pI hok ox, _, tys, hP1, hD1, hKK, inW_set hI he (fun _ => rfl) (fun _ => rfl) (fun b nb i => by rw [gI_pI, if_neg (fun z => nb z.1)]) (fun b nb i => rfl) (fun _ _ _ => rfl) (isE_mkO (c := c) ha hc.2 rfl)⟩ (SC_pI (a := a) hC (by omega)) hS1 hl ho hcu hsu
  · exact k.elim
theorem sd_oPutR (m pc : Nat) (c fk ix : Nat) (C : String) (T : u_T) (N : Nat) (hcl : vwCl[c - 1]? = some (C, T, N)) (hc : 1 ≤ c ∧ c ≤ 7) (hN : nF c = N) (hfk : fk < N) (hT : (T fk).1 = C) (hin : ∀ w ∈ u_ws C T N, w ∈ mWs (Md m)) (hf : fR c fk = true) (ty0 : Nat → FieldType) (hty : ∀ k, k < N → parseFieldDescriptor (T k).2.2.1 = some (ty0 k)) (hnm2 : ∀ a, a < N → ∀ b, b < N → a ≠ b → (T a).2.1 ≠ (T b).2.1) (htk : (∃ n, ty0 fk = .object n) ∨ ∃ t, ty0 fk = .array t) (hfin : (T fk).2.2.2 = false) (hw : Cond.fieldLink (mOwn (Md m)) ix C (T fk).2.1 (T fk).2.2.1 ∈ mWs (Md m)) (d : decode (mCod (Md m)) pc = .ok (.putfield ix, 3)) : SM G Md D A l m pc (oPutR c fk) := by
  refine ⟨mo_oPutR c fk, fun ls st h Q k pp ee RR ss mm aa bb me cc0 HH lc lsC c0 s0 ce se C0 hR hC hS hl ho hcu hsu => ?_⟩
  obtain ⟨⟨hx, hb, hml, hown, hts⟩, hr, hlk, hnm, het, hRm, htr, hA, hG⟩ := id C0
  unfold oPutR at k
  split at k
  · next x r t =>
    obtain ⟨⟨a, rfl, ha⟩, k⟩ := k
    replace ho := List.forall_mem_cons.mp ho
    obtain ⟨ox, ho⟩ := ho
    replace ho := List.forall_mem_cons.mp ho
    obtain ⟨-, ho⟩ := ho
    obtain ⟨hok, ws, tys, hP, hD, hKK, hI⟩ := id hR
    obtain ⟨q0, e, he, hE⟩ := hI a (by omega) (by omega)
    have he2 := isE_obj hE ha hc.2
    subst he2
    refine va_put hx hb hts hin ty0 hty hnm2 hown hKK hP hD hS q0 he hcl fk hfk (hts _ hw) (fun _ z => by rw [hT] at z; exact z) hfin (hty fk hfk) (v := va_rf x) (by rcases htk with ⟨n, e⟩ | ⟨n, e⟩ <;> rw [e] <;> cases x <;> rfl) (by rcases htk with ⟨n, e⟩ | ⟨n, e⟩ <;> rw [e] <;> cases x <;> rfl) (by rw [encF_len]; omega) d (fun H1 lc1 hP1 hD1 hS1 => ?_)
    rw [← encF_pR (by omega) hf] at hP1 hD1
    refine k pp ee RR ss mm aa bb me cc0 H1 lc1 lsC c0 s0 ce se C0 ⟨okh_pR hok, _, tys, hP1, hD1, hKK, inW_set hI he (fun _ => rfl) (fun _ => rfl) (fun b nb i => rfl) (fun b nb i => by rw [gR_pR, if_neg (fun z => nb z.1)]) (fun _ _ _ => rfl) (isE_mkO (c := c) ha hc.2 rfl)⟩ (SC_pR hC) hS1 hl ho hcu hsu
  · exact k.elim
theorem sd_oPutRF (m pc : Nat) (c fk ix : Nat) (C : String) (T : u_T) (N : Nat) (hcl : vwCl[c - 1]? = some (C, T, N)) (hc : 1 ≤ c ∧ c ≤ 7) (hN : nF c = N) (hfk : fk < N) (hT : (T fk).1 = C) (hin : ∀ w ∈ u_ws C T N, w ∈ mWs (Md m)) (hf : fR c fk = true) (ty0 : Nat → FieldType) (hty : ∀ k, k < N → parseFieldDescriptor (T k).2.2.1 = some (ty0 k)) (hnm2 : ∀ a, a < N → ∀ b, b < N → a ≠ b → (T a).2.1 ≠ (T b).2.1) (htk : (∃ n, ty0 fk = .object n) ∨ ∃ t, ty0 fk = .array t) (hfin : (T fk).2.2.2 = true) (hini : (mNam (Md m)).name = "<init>") (hdecl : C = mOwn (Md m)) (hw : Cond.fieldLink (mOwn (Md m)) ix C (T fk).2.1 (T fk).2.2.1 ∈ mWs (Md m)) (d : decode (mCod (Md m)) pc = .ok (.putfield ix, 3)) : SM G Md D A l m pc (oPutR c fk) := by
  refine ⟨mo_oPutR c fk, fun ls st h Q k pp ee RR ss mm aa bb me cc0 HH lc lsC c0 s0 ce se C0 hR hC hS hl ho hcu hsu => ?_⟩
  obtain ⟨⟨hx, hb, hml, hown, hts⟩, hr, hlk, hnm, het, hRm, htr, hA, hG⟩ := id C0
  unfold oPutR at k
  split at k
  · next x r t =>
    obtain ⟨⟨a, rfl, ha⟩, k⟩ := k
    replace ho := List.forall_mem_cons.mp ho
    obtain ⟨ox, ho⟩ := ho
    replace ho := List.forall_mem_cons.mp ho
    obtain ⟨-, ho⟩ := ho
    obtain ⟨hok, ws, tys, hP, hD, hKK, hI⟩ := id hR
    obtain ⟨q0, e, he, hE⟩ := hI a (by omega) (by omega)
    have he2 := isE_obj hE ha hc.2
    subst he2
    refine va_putF hx hb hts hin ty0 hty hnm2 hown hKK hP hD hS q0 he hcl fk hfk (hts _ hw) (fun _ z => by rw [hT] at z; exact z) hfin (by rw [hnm]; exact hini) (by rw [hT]; exact hdecl) (hty fk hfk) (v := va_rf x) (by rcases htk with ⟨n, e⟩ | ⟨n, e⟩ <;> rw [e] <;> cases x <;> rfl) (by rcases htk with ⟨n, e⟩ | ⟨n, e⟩ <;> rw [e] <;> cases x <;> rfl) (by rw [encF_len]; omega) d (fun H1 lc1 hP1 hD1 hS1 => ?_)
    rw [← encF_pR (by omega) hf] at hP1 hD1
    refine k pp ee RR ss mm aa bb me cc0 H1 lc1 lsC c0 s0 ce se C0 ⟨okh_pR hok, _, tys, hP1, hD1, hKK, inW_set hI he (fun _ => rfl) (fun _ => rfl) (fun b nb i => rfl) (fun b nb i => by rw [gR_pR, if_neg (fun z => nb z.1)]) (fun _ _ _ => rfl) (isE_mkO (c := c) ha hc.2 rfl)⟩ (SC_pR hC) hS1 hl ho hcu hsu
  · exact k.elim
theorem sd_oPutRN (m pc : Nat) (c fk ix : Nat) (C : String) (T : u_T) (N : Nat) (hcl : vwCl[c - 1]? = some (C, T, N)) (hc : 1 ≤ c ∧ c ≤ 7) (hN : nF c = N) (hfk : fk < N) (hT : (T fk).1 = C) (hin : ∀ w ∈ u_ws C T N, w ∈ mWs (Md m)) (hf : fR c fk = true) (ty0 : Nat → FieldType) (hty : ∀ k, k < N → parseFieldDescriptor (T k).2.2.1 = some (ty0 k)) (hnm2 : ∀ a, a < N → ∀ b, b < N → a ≠ b → (T a).2.1 ≠ (T b).2.1) (htk : (∃ n, ty0 fk = .object n) ∨ ∃ t, ty0 fk = .array t) (hfin : (T fk).2.2.2 = false) (host : String) (hw : (mOwn (Md m), ix, C, (T fk).2.1, (T fk).2.2.1, host) ∈ G.2.2.2.1) (d : decode (mCod (Md m)) pc = .ok (.putfield ix, 3)) : SM G Md D A l m pc (oPutR c fk) := by
  refine ⟨mo_oPutR c fk, fun ls st h Q k pp ee RR ss mm aa bb me cc0 HH lc lsC c0 s0 ce se C0 hR hC hS hl ho hcu hsu => ?_⟩
  obtain ⟨⟨hx, hb, hml, hown, hts⟩, hr, hlk, hnm, het, hRm, htr, hA, hG⟩ := id C0
  unfold oPutR at k
  split at k
  · next x r t =>
    obtain ⟨⟨a, rfl, ha⟩, k⟩ := k
    replace ho := List.forall_mem_cons.mp ho
    obtain ⟨ox, ho⟩ := ho
    replace ho := List.forall_mem_cons.mp ho
    obtain ⟨-, ho⟩ := ho
    obtain ⟨hok, ws, tys, hP, hD, hKK, hI⟩ := id hR
    obtain ⟨q0, e, he, hE⟩ := hI a (by omega) (by omega)
    have he2 := isE_obj hE ha hc.2
    subst he2
    refine va_putN hx hb hts hin ty0 hty hnm2 hown hKK hP hD hS q0 he hcl fk hfk (va_Nw.use rfl (hG.2.2.2.2.2.1 _ hw)) (fun _ z => by rw [hT] at z; exact z) hfin (hty fk hfk) (v := va_rf x) (by rcases htk with ⟨n, e⟩ | ⟨n, e⟩ <;> rw [e] <;> cases x <;> rfl) (by rcases htk with ⟨n, e⟩ | ⟨n, e⟩ <;> rw [e] <;> cases x <;> rfl) (by rw [encF_len]; omega) d (fun H1 lc1 hP1 hD1 hS1 => ?_)
    rw [← encF_pR (by omega) hf] at hP1 hD1
    refine k pp ee RR ss mm aa bb me cc0 H1 lc1 lsC c0 s0 ce se C0 ⟨okh_pR hok, _, tys, hP1, hD1, hKK, inW_set hI he (fun _ => rfl) (fun _ => rfl) (fun b nb i => rfl) (fun b nb i => by rw [gR_pR, if_neg (fun z => nb z.1)]) (fun _ _ _ => rfl) (isE_mkO (c := c) ha hc.2 rfl)⟩ (SC_pR hC) hS1 hl ho hcu hsu
  · exact k.elim
theorem sd_iald (m pc : Nat)  (d : decode (mCod (Md m)) pc = .ok (.iaload, 1)) : SM G Md D A l m pc (oALdI 10) := by
  refine ⟨mo_oALdI 10, fun ls st h Q k pp ee RR ss mm aa bb me cc0 HH lc lsC c0 s0 ce se C0 hR hC hS hl ho hcu hsu => ?_⟩
  obtain ⟨⟨hx, hb, hml, hown, hts⟩, hr, hlk, hnm, het, hRm, htr, hA, hG⟩ := id C0
  unfold oALdI at k
  split at k
  · next i r t =>
    obtain ⟨⟨⟨a, rfl, ha⟩, h0, h1⟩, k⟩ := k
    replace ho := List.forall_mem_cons.mp ho
    obtain ⟨oi, ho⟩ := ho
    replace ho := List.forall_mem_cons.mp ho
    obtain ⟨-, ho⟩ := ho
    obtain ⟨hok, ws, tys, hP, hD, hKK, hI⟩ := id hR
    have h1 : i < gL h a := h1
    have hlen := (hok.2.1 a).1
    obtain ⟨q0, e, he, hE⟩ := hI a (by omega) (by omega)
    obtain ⟨cA, t0, he2, ht0⟩ := isE_arr hE ha (by omega)
    subst he2
    refine va_iald hx hb hKK hP q0 t0 he ht0 (z_in oi h0 (by omega)) d ?_
    rw [z_cl oi, show (((i.toNat : Nat) : Int)) = i by omega]
    exact k pp ee RR ss mm aa bb me cc0 HH lc lsC c0 s0 ce se C0 hR hC hS hl (List.forall_mem_cons.mpr ⟨hok.1 a i, ho⟩) hcu hsu
  · exact k.elim
theorem sd_zald (m pc : Nat)  (d : decode (mCod (Md m)) pc = .ok (.baload, 1)) : SM G Md D A l m pc (oALdI 12) := by
  refine ⟨mo_oALdI 12, fun ls st h Q k pp ee RR ss mm aa bb me cc0 HH lc lsC c0 s0 ce se C0 hR hC hS hl ho hcu hsu => ?_⟩
  obtain ⟨⟨hx, hb, hml, hown, hts⟩, hr, hlk, hnm, het, hRm, htr, hA, hG⟩ := id C0
  unfold oALdI at k
  split at k
  · next i r t =>
    obtain ⟨⟨⟨a, rfl, ha⟩, h0, h1⟩, k⟩ := k
    replace ho := List.forall_mem_cons.mp ho
    obtain ⟨oi, ho⟩ := ho
    replace ho := List.forall_mem_cons.mp ho
    obtain ⟨-, ho⟩ := ho
    obtain ⟨hok, ws, tys, hP, hD, hKK, hI⟩ := id hR
    have h1 : i < gL h a := h1
    have hlen := (hok.2.1 a).1
    obtain ⟨q0, e, he, hE⟩ := hI a (by omega) (by omega)
    obtain ⟨cA, t0, he2, ht0⟩ := isE_arr hE ha (by omega)
    subst he2
    refine va_zald hx hb hKK hP q0 t0 he ht0 (z_in oi h0 (by omega)) d ?_
    rw [z_cl oi, show (((i.toNat : Nat) : Int)) = i by omega]
    exact k pp ee RR ss mm aa bb me cc0 HH lc lsC c0 s0 ce se C0 hR hC hS hl (List.forall_mem_cons.mpr ⟨hok.1 a i, ho⟩) hcu hsu
  · exact k.elim
theorem sd_lald (m pc : Nat)  (d : decode (mCod (Md m)) pc = .ok (.laload, 1)) : SM G Md D A l m pc (oALdJ) := by
  refine ⟨mo_oALdJ, fun ls st h Q k pp ee RR ss mm aa bb me cc0 HH lc lsC c0 s0 ce se C0 hR hC hS hl ho hcu hsu => ?_⟩
  obtain ⟨⟨hx, hb, hml, hown, hts⟩, hr, hlk, hnm, het, hRm, htr, hA, hG⟩ := id C0
  unfold oALdJ at k
  split at k
  · next i r t =>
    obtain ⟨⟨⟨a, rfl, ha⟩, h0, h1⟩, k⟩ := k
    replace ho := List.forall_mem_cons.mp ho
    obtain ⟨oi, ho⟩ := ho
    replace ho := List.forall_mem_cons.mp ho
    obtain ⟨-, ho⟩ := ho
    obtain ⟨hok, ws, tys, hP, hD, hKK, hI⟩ := id hR
    have h1 : i < gL h a := h1
    have hlen := (hok.2.1 a).1
    obtain ⟨q0, e, he, hE⟩ := hI a (by omega) (by omega)
    obtain ⟨cA, t0, he2, ht0⟩ := isE_arr hE ha (by omega)
    subst he2
    refine va_lald hx hb hKK hP q0 t0 he ht0 (z_in oi h0 (by omega)) d ?_
    rw [z_cl oi, show (((i.toNat : Nat) : Int)) = i by omega]
    exact k pp ee RR ss mm aa bb me cc0 HH lc lsC c0 s0 ce se C0 hR hC hS hl (List.forall_mem_cons.mpr ⟨trivial, ho⟩) hcu hsu
  · exact k.elim
theorem sd_aaldN (m pc : Nat)  (d : decode (mCod (Md m)) pc = .ok (.aaload, 1)) : SM G Md D A l m pc (oALdR 13) := by
  refine ⟨mo_oALdR 13, fun ls st h Q k pp ee RR ss mm aa bb me cc0 HH lc lsC c0 s0 ce se C0 hR hC hS hl ho hcu hsu => ?_⟩
  obtain ⟨⟨hx, hb, hml, hown, hts⟩, hr, hlk, hnm, het, hRm, htr, hA, hG⟩ := id C0
  unfold oALdR at k
  split at k
  · next i r t =>
    obtain ⟨⟨⟨a, rfl, ha⟩, h0, h1⟩, k⟩ := k
    replace ho := List.forall_mem_cons.mp ho
    obtain ⟨oi, ho⟩ := ho
    replace ho := List.forall_mem_cons.mp ho
    obtain ⟨-, ho⟩ := ho
    obtain ⟨hok, ws, tys, hP, hD, hKK, hI⟩ := id hR
    have h1 : i < gL h a := h1
    have hlen := (hok.2.1 a).1
    obtain ⟨q0, e, he, hE⟩ := hI a (by omega) (by omega)
    obtain ⟨cA, t0, he2, ht0⟩ := isE_arr hE ha (by omega)
    subst he2
    refine va_aldq hx hb hKK hP q0 t0 he ht0 (z_in oi h0 (by omega)) d ?_
    rw [z_cl oi, show (((i.toNat : Nat) : Int)) = i by omega]
    exact k pp ee RR ss mm aa bb me cc0 HH lc lsC c0 s0 ce se C0 hR hC hS hl (List.forall_mem_cons.mpr ⟨trivial, ho⟩) hcu hsu
  · exact k.elim
theorem sd_aaldA (m pc : Nat)  (d : decode (mCod (Md m)) pc = .ok (.aaload, 1)) : SM G Md D A l m pc (oALdR 14) := by
  refine ⟨mo_oALdR 14, fun ls st h Q k pp ee RR ss mm aa bb me cc0 HH lc lsC c0 s0 ce se C0 hR hC hS hl ho hcu hsu => ?_⟩
  obtain ⟨⟨hx, hb, hml, hown, hts⟩, hr, hlk, hnm, het, hRm, htr, hA, hG⟩ := id C0
  unfold oALdR at k
  split at k
  · next i r t =>
    obtain ⟨⟨⟨a, rfl, ha⟩, h0, h1⟩, k⟩ := k
    replace ho := List.forall_mem_cons.mp ho
    obtain ⟨oi, ho⟩ := ho
    replace ho := List.forall_mem_cons.mp ho
    obtain ⟨-, ho⟩ := ho
    obtain ⟨hok, ws, tys, hP, hD, hKK, hI⟩ := id hR
    have h1 : i < gL h a := h1
    have hlen := (hok.2.1 a).1
    obtain ⟨q0, e, he, hE⟩ := hI a (by omega) (by omega)
    obtain ⟨cA, t0, he2, ht0⟩ := isE_arr hE ha (by omega)
    subst he2
    refine va_aldA hx hb hKK hP q0 t0 he ht0 (z_in oi h0 (by omega)) d ?_
    rw [z_cl oi, show (((i.toNat : Nat) : Int)) = i by omega]
    exact k pp ee RR ss mm aa bb me cc0 HH lc lsC c0 s0 ce se C0 hR hC hS hl (List.forall_mem_cons.mpr ⟨trivial, ho⟩) hcu hsu
  · exact k.elim
theorem sd_sld (m pc : Nat)  (d : decode (mCod (Md m)) pc = .ok (.iaload, 1)) : SM G Md D A l m pc (oALdI 15) := by
  refine ⟨mo_oALdI 15, fun ls st h Q k pp ee RR ss mm aa bb me cc0 HH lc lsC c0 s0 ce se C0 hR hC hS hl ho hcu hsu => ?_⟩
  obtain ⟨⟨hx, hb, hml, hown, hts⟩, hr, hlk, hnm, het, hRm, htr, hA, hG⟩ := id C0
  unfold oALdI at k
  split at k
  · next i r t =>
    obtain ⟨⟨⟨a, rfl, ha⟩, h0, h1⟩, k⟩ := k
    replace ho := List.forall_mem_cons.mp ho
    obtain ⟨oi, ho⟩ := ho
    replace ho := List.forall_mem_cons.mp ho
    obtain ⟨-, ho⟩ := ho
    have hok := hR.1
    have h1 : i < gL h a := h1
    have hlen := (hok.2.1 a).1
    obtain ⟨c1, c2, c3⟩ := hC a ha
    refine va_sld hx hb c3 c2 c1 hS (z_in oi h0 (by omega)) d ?_
    rw [z_cl oi, show (((i.toNat : Nat) : Int)) = i by omega]
    exact k pp ee RR ss mm aa bb me cc0 HH lc lsC c0 s0 ce se C0 hR hC hS hl (List.forall_mem_cons.mpr ⟨hok.1 a i, ho⟩) hcu hsu
  · exact k.elim
theorem sd_alen (m pc : Nat) (c : Nat) (h10 : 10 ≤ c ∧ c < 15) (d : decode (mCod (Md m)) pc = .ok (.arraylength, 1)) : SM G Md D A l m pc (oALen c) := by
  refine ⟨mo_oALen c, fun ls st h Q k pp ee RR ss mm aa bb me cc0 HH lc lsC c0 s0 ce se C0 hR hC hS hl ho hcu hsu => ?_⟩
  obtain ⟨⟨hx, hb, hml, hown, hts⟩, hr, hlk, hnm, het, hRm, htr, hA, hG⟩ := id C0
  unfold oALen at k
  split at k
  · next r t =>
    obtain ⟨⟨a, rfl, ha⟩, k⟩ := k
    replace ho := List.forall_mem_cons.mp ho
    obtain ⟨-, ho⟩ := ho
    obtain ⟨hok, ws, tys, hP, hD, hKK, hI⟩ := id hR
    have hlen := hok.2.1 a
    obtain ⟨q0, e, he, hE⟩ := hI a (by omega) (by omega)
    obtain ⟨cA, t0, he2, ht0⟩ := isE_arr hE ha h10.1
    subst he2
    refine va_alen (v := Int32.ofInt (gL h a)) hx hb hKK hP q0 t0 he ht0 ?_ d (k pp ee RR ss mm aa bb me cc0 HH lc lsC c0 s0 ce se C0 hR hC hS hl (List.forall_mem_cons.mpr ⟨⟨by have := hlen.1; show _ ≤ gL h a; omega, by have := hlen.2; show gL h a ≤ _; omega⟩, ho⟩) hcu hsu)
    rw [akE_n]
    show Int32.ofInt ((gL h a).toNat : Int) = _
    rw [Int.toNat_of_nonneg hlen.1]
  · exact k.elim
theorem sd_slen (m pc : Nat)  (d : decode (mCod (Md m)) pc = .ok (.arraylength, 1)) : SM G Md D A l m pc (oALen 15) := by
  refine ⟨mo_oALen 15, fun ls st h Q k pp ee RR ss mm aa bb me cc0 HH lc lsC c0 s0 ce se C0 hR hC hS hl ho hcu hsu => ?_⟩
  obtain ⟨⟨hx, hb, hml, hown, hts⟩, hr, hlk, hnm, het, hRm, htr, hA, hG⟩ := id C0
  unfold oALen at k
  split at k
  · next r t =>
    obtain ⟨⟨a, rfl, ha⟩, k⟩ := k
    replace ho := List.forall_mem_cons.mp ho
    obtain ⟨-, ho⟩ := ho
    have hok := hR.1
    have hlen := hok.2.1 a
    obtain ⟨c1, c2, c3⟩ := hC a ha
    refine va_slen hx hb c3 c2 c1 hS d ?_
    rw [show Int32.ofNat (gL h a).toNat = Int32.ofInt (gL h a) from by
      show Int32.ofInt ((gL h a).toNat : Int) = _
      rw [Int.toNat_of_nonneg hlen.1]]
    exact k pp ee RR ss mm aa bb me cc0 HH lc lsC c0 s0 ce se C0 hR hC hS hl (List.forall_mem_cons.mpr ⟨⟨by have := hlen.1; show _ ≤ gL h a; omega, by have := hlen.2; show gL h a ≤ _; omega⟩, ho⟩) hcu hsu
  · exact k.elim
theorem sd_iast (m pc : Nat)  (d : decode (mCod (Md m)) pc = .ok (.iastore, 1)) : SM G Md D A l m pc (oAStI) := by
  refine ⟨mo_oAStI, fun ls st h Q k pp ee RR ss mm aa bb me cc0 HH lc lsC c0 s0 ce se C0 hR hC hS hl ho hcu hsu => ?_⟩
  obtain ⟨⟨hx, hb, hml, hown, hts⟩, hr, hlk, hnm, het, hRm, htr, hA, hG⟩ := id C0
  unfold oAStI at k
  split at k
  · next x i r t =>
    obtain ⟨⟨⟨a, rfl, ha⟩, h0, h1⟩, k⟩ := k
    replace ho := List.forall_mem_cons.mp ho
    obtain ⟨ox, ho⟩ := ho
    replace ho := List.forall_mem_cons.mp ho
    obtain ⟨oi, ho⟩ := ho
    replace ho := List.forall_mem_cons.mp ho
    obtain ⟨-, ho⟩ := ho
    obtain ⟨hok, ws, tys, hP, hD, hKK, hI⟩ := id hR
    have h1 : i < gL h a := h1
    have hlen := (hok.2.1 a).1
    obtain ⟨q0, e, he, hE⟩ := hI a (by omega) (by omega)
    obtain ⟨cA, t0, he2, ht0⟩ := isE_arr hE ha (by omega)
    subst he2
    refine va_iast hx hb hKK hP hD hS q0 t0 he ht0 (z_in oi h0 (by omega)) d (fun H1 lc1 hP1 hD1 hS1 => ?_)
    rw [z_cl oi] at hP1 hD1
    refine k pp ee RR ss mm aa bb me cc0 H1 lc1 lsC c0 s0 ce se C0 ⟨okh_pI hok ox, _, tys, hP1, hD1, hKK, inW_set hI he (fun _ => rfl) (fun _ => rfl) (fun b nb j => by rw [gI_pI, if_neg (fun z => nb z.1)]) (fun b nb j => rfl) (fun b nb j => rfl) (isE_mkA ha (by omega) cA t0 ?_ ht0)⟩ (SC_pI (a := a) hC (by omega)) hS1 hl ho hcu hsu
    refine congrArg Sum.inl (congrArg (Prod.mk cA) ?_)
    show ((gL h a).toNat, _) = ((gL h a).toNat, _)
    refine congrArg (Prod.mk _) (congrArg _ (funext fun j => ?_))
    show upd (fun j : Nat => Int32.ofInt (gI h a j)) i.toNat (Int32.ofInt x) j = Int32.ofInt (gI (pI h (ad (some a)) i x) a j)
    rw [gI_pI]
    by_cases z : j = i.toNat
    · rw [if_pos ⟨rfl, by omega⟩]; simp [upd, z]
    · rw [if_neg (fun q => z (by have := q.2; omega))]; simp [upd, z]
  · exact k.elim
theorem sd_zast (m pc : Nat)  (d : decode (mCod (Md m)) pc = .ok (.bastore, 1)) : SM G Md D A l m pc (oAStZ) := by
  refine ⟨mo_oAStZ, fun ls st h Q k pp ee RR ss mm aa bb me cc0 HH lc lsC c0 s0 ce se C0 hR hC hS hl ho hcu hsu => ?_⟩
  obtain ⟨⟨hx, hb, hml, hown, hts⟩, hr, hlk, hnm, het, hRm, htr, hA, hG⟩ := id C0
  unfold oAStZ at k
  split at k
  · next x i r t =>
    obtain ⟨⟨⟨⟨a, rfl, ha⟩, h0, h1⟩, h01⟩, k⟩ := k
    replace ho := List.forall_mem_cons.mp ho
    obtain ⟨ox, ho⟩ := ho
    replace ho := List.forall_mem_cons.mp ho
    obtain ⟨oi, ho⟩ := ho
    replace ho := List.forall_mem_cons.mp ho
    obtain ⟨-, ho⟩ := ho
    obtain ⟨hok, ws, tys, hP, hD, hKK, hI⟩ := id hR
    have h1 : i < gL h a := h1
    have hlen := (hok.2.1 a).1
    obtain ⟨q0, e, he, hE⟩ := hI a (by omega) (by omega)
    obtain ⟨cA, t0, he2, ht0⟩ := isE_arr hE ha (by omega)
    subst he2
    refine va_zast hx hb hKK hP hD hS q0 t0 he ht0 (z_in oi h0 (by omega)) d (fun H1 lc1 hP1 hD1 hS1 => ?_)
    rw [z_cl oi] at hP1 hD1
    refine k pp ee RR ss mm aa bb me cc0 H1 lc1 lsC c0 s0 ce se C0 ⟨okh_pI hok ox, _, tys, hP1, hD1, hKK, inW_set hI he (fun _ => rfl) (fun _ => rfl) (fun b nb j => by rw [gI_pI, if_neg (fun z => nb z.1)]) (fun b nb j => rfl) (fun b nb j => rfl) (isE_mkA ha (by omega) cA t0 ?_ ht0)⟩ (SC_pI (a := a) hC (by omega)) hS1 hl ho hcu hsu
    refine congrArg Sum.inl (congrArg (Prod.mk cA) ?_)
    show ((gL h a).toNat, _) = ((gL h a).toNat, _)
    refine congrArg (Prod.mk _) (congrArg _ (funext fun j => ?_))
    show upd (fun j : Nat => Int32.ofInt (gI h a j)) i.toNat (vp_nar .boolean (Int32.ofInt x)) j = Int32.ofInt (gI (pI h (ad (some a)) i x) a j)
    rw [gI_pI, show vp_nar .boolean (Int32.ofInt x) = Int32.ofInt x from by rcases h01 with rfl | rfl <;> rfl]
    by_cases z : j = i.toNat
    · rw [if_pos ⟨rfl, by omega⟩]; simp [upd, z]
    · rw [if_neg (fun q => z (by have := q.2; omega))]; simp [upd, z]
  · exact k.elim
theorem sd_last (m pc : Nat)  (d : decode (mCod (Md m)) pc = .ok (.lastore, 1)) : SM G Md D A l m pc (oAStJ) := by
  refine ⟨mo_oAStJ, fun ls st h Q k pp ee RR ss mm aa bb me cc0 HH lc lsC c0 s0 ce se C0 hR hC hS hl ho hcu hsu => ?_⟩
  obtain ⟨⟨hx, hb, hml, hown, hts⟩, hr, hlk, hnm, het, hRm, htr, hA, hG⟩ := id C0
  unfold oAStJ at k
  split at k
  · next x i r t =>
    obtain ⟨⟨⟨a, rfl, ha⟩, h0, h1⟩, k⟩ := k
    replace ho := List.forall_mem_cons.mp ho
    obtain ⟨ox, ho⟩ := ho
    replace ho := List.forall_mem_cons.mp ho
    obtain ⟨oi, ho⟩ := ho
    replace ho := List.forall_mem_cons.mp ho
    obtain ⟨-, ho⟩ := ho
    obtain ⟨hok, ws, tys, hP, hD, hKK, hI⟩ := id hR
    have h1 : i < gL h a := h1
    have hlen := (hok.2.1 a).1
    obtain ⟨q0, e, he, hE⟩ := hI a (by omega) (by omega)
    obtain ⟨cA, t0, he2, ht0⟩ := isE_arr hE ha (by omega)
    subst he2
    refine va_last hx hb hKK hP hD hS q0 t0 he ht0 (z_in oi h0 (by omega)) d (fun H1 lc1 hP1 hD1 hS1 => ?_)
    rw [z_cl oi] at hP1 hD1
    refine k pp ee RR ss mm aa bb me cc0 H1 lc1 lsC c0 s0 ce se C0 ⟨okh_pJ hok, _, tys, hP1, hD1, hKK, inW_set hI he (fun _ => rfl) (fun _ => rfl) (fun b nb j => rfl) (fun b nb j => rfl) (fun b nb j => by rw [gJ_pJ, if_neg (fun z => nb z.1)]) (isE_mkA ha (by omega) cA t0 ?_ ht0)⟩ (SC_pJ hC) hS1 hl ho hcu hsu
    refine congrArg Sum.inl (congrArg (Prod.mk cA) ?_)
    show ((gL h a).toNat, _) = ((gL h a).toNat, _)
    refine congrArg (Prod.mk _) (congrArg _ (congrArg Sum.inl (funext fun j => ?_)))
    show vp_updL (fun j : Nat => gJ h a j) i.toNat x j = gJ (pJ h (ad (some a)) i x) a j
    rw [gJ_pJ]
    by_cases z : j = i.toNat
    · rw [if_pos ⟨rfl, by omega⟩]; simp [vp_updL, z]
    · rw [if_neg (fun q => z (by have := q.2; omega))]; simp [vp_updL, z]
  · exact k.elim
theorem sd_aastN (m pc : Nat)  (d : decode (mCod (Md m)) pc = .ok (.aastore, 1)) : SM G Md D A l m pc (oAStR 13 3) := by
  refine ⟨mo_oAStR 13 3, fun ls st h Q k pp ee RR ss mm aa bb me cc0 HH lc lsC c0 s0 ce se C0 hR hC hS hl ho hcu hsu => ?_⟩
  obtain ⟨⟨hx, hb, hml, hown, hts⟩, hr, hlk, hnm, het, hRm, htr, hA, hG⟩ := id C0
  unfold oAStR at k
  split at k
  · next x i r t =>
    obtain ⟨⟨⟨⟨a, rfl, ha⟩, h0, h1⟩, ⟨xa, rfl, hxa⟩⟩, k⟩ := k
    replace ho := List.forall_mem_cons.mp ho
    obtain ⟨ox, ho⟩ := ho
    replace ho := List.forall_mem_cons.mp ho
    obtain ⟨oi, ho⟩ := ho
    replace ho := List.forall_mem_cons.mp ho
    obtain ⟨-, ho⟩ := ho
    obtain ⟨hok, ws, tys, hP, hD, hKK, hI⟩ := id hR
    have h1 : i < gL h a := h1
    have hlen := (hok.2.1 a).1
    obtain ⟨q0, e, he, hE⟩ := hI a (by omega) (by omega)
    obtain ⟨cA, t0, he2, ht0⟩ := isE_arr hE ha (by omega)
    subst he2
    obtain ⟨qk, ev, hev, hEv⟩ := hI xa (by omega) (by omega)
    have hev2 := isE_obj hEv hxa (by omega)
    subst hev2
    refine va_astq (r := (RX2, TX2, 10)) hx hb hKK hP hD hS q0 t0 qk 2 he ht0 hev rfl (z_in oi h0 (by omega)) d (fun H1 lc1 hP1 hD1 hS1 => ?_)
    rw [z_cl oi] at hP1 hD1
    refine k pp ee RR ss mm aa bb me cc0 H1 lc1 lsC c0 s0 ce se C0 ⟨okh_pR hok, _, tys, hP1, hD1, hKK, inW_set hI he (fun _ => rfl) (fun _ => rfl) (fun b nb j => rfl) (fun b nb j => by rw [gR_pR, if_neg (fun z => nb z.1)]) (fun b nb j => rfl) (isE_mkA ha (by omega) cA t0 ?_ ht0)⟩ (SC_pR hC) hS1 hl ho hcu hsu
    refine congrArg Sum.inl (congrArg (Prod.mk cA) ?_)
    show ((gL h a).toNat, _) = ((gL h a).toNat, _)
    refine congrArg (Prod.mk _) (congrArg (fun z => Sum.inr (Sum.inr (Sum.inr (Sum.inr z)))) (funext fun j => ?_))
    show va_up (fun j : Nat => gR h a j) i.toNat (some xa) j = gR (pR h (ad (some a)) i (some xa)) a j
    rw [gR_pR]
    by_cases z : j = i.toNat
    · rw [if_pos ⟨rfl, by omega⟩]; simp [va_up, z]
    · rw [if_neg (fun q => z (by have := q.2; omega))]; simp [va_up, z]
  · exact k.elim
theorem sd_aastA (m pc : Nat)  (d : decode (mCod (Md m)) pc = .ok (.aastore, 1)) : SM G Md D A l m pc (oAStR 14 10) := by
  refine ⟨mo_oAStR 14 10, fun ls st h Q k pp ee RR ss mm aa bb me cc0 HH lc lsC c0 s0 ce se C0 hR hC hS hl ho hcu hsu => ?_⟩
  obtain ⟨⟨hx, hb, hml, hown, hts⟩, hr, hlk, hnm, het, hRm, htr, hA, hG⟩ := id C0
  unfold oAStR at k
  split at k
  · next x i r t =>
    obtain ⟨⟨⟨⟨a, rfl, ha⟩, h0, h1⟩, ⟨xa, rfl, hxa⟩⟩, k⟩ := k
    replace ho := List.forall_mem_cons.mp ho
    obtain ⟨ox, ho⟩ := ho
    replace ho := List.forall_mem_cons.mp ho
    obtain ⟨oi, ho⟩ := ho
    replace ho := List.forall_mem_cons.mp ho
    obtain ⟨-, ho⟩ := ho
    obtain ⟨hok, ws, tys, hP, hD, hKK, hI⟩ := id hR
    have h1 : i < gL h a := h1
    have hlen := (hok.2.1 a).1
    obtain ⟨q0, e, he, hE⟩ := hI a (by omega) (by omega)
    obtain ⟨cA, t0, he2, ht0⟩ := isE_arr hE ha (by omega)
    subst he2
    obtain ⟨qk, ev, hev, hEv⟩ := hI xa (by omega) (by omega)
    obtain ⟨cV, tV, hev2, htV⟩ := isE_arr hEv hxa (by omega)
    subst hev2
    refine va_astA hG.2.2.2.2.2.2.2.2 hx hb hKK hP hD hS q0 t0 qk tV he ht0 hev htV (z_in oi h0 (by omega)) d (fun H1 lc1 hP1 hD1 hS1 => ?_)
    rw [z_cl oi] at hP1 hD1
    refine k pp ee RR ss mm aa bb me cc0 H1 lc1 lsC c0 s0 ce se C0 ⟨okh_pR hok, _, tys, hP1, hD1, hKK, inW_set hI he (fun _ => rfl) (fun _ => rfl) (fun b nb j => rfl) (fun b nb j => by rw [gR_pR, if_neg (fun z => nb z.1)]) (fun b nb j => rfl) (isE_mkA ha (by omega) cA t0 ?_ ht0)⟩ (SC_pR hC) hS1 hl ho hcu hsu
    refine congrArg Sum.inl (congrArg (Prod.mk cA) ?_)
    show ((gL h a).toNat, _) = ((gL h a).toNat, _)
    refine congrArg (Prod.mk _) (congrArg (fun z => Sum.inr (Sum.inr (Sum.inr (Sum.inr z)))) (funext fun j => ?_))
    show va_up (fun j : Nat => gR h a j) i.toNat (some xa) j = gR (pR h (ad (some a)) i (some xa)) a j
    rw [gR_pR]
    by_cases z : j = i.toNat
    · rw [if_pos ⟨rfl, by omega⟩]; simp [va_up, z]
    · rw [if_neg (fun q => z (by have := q.2; omega))]; simp [va_up, z]
  · exact k.elim
end SD2
end
section
/-! SOUNDNESS of the instructions that make things -/
section SDB
variable {p : Program} {l : Launch} {e : Env} {R : Room} {s : State} {m : MethodId} {args : Array Value} {below : List Frame} {meth : Method} {c : Code} {H : Heap} {locs : List Loc} {cells slots : Nat} {Q : State → Prop}
variable {cc : ByteArray} {pc : Nat} {ls : Array Slot} {rest : List Value} {D : va_G} {cl : List vw_C} {A : Nat → Prop} {a : Nat} {tys : List (ClassId × FieldType)} {ws : va_W} {H0 : Heap}
/-- a row of int arrays, by an instruction of one length -/
theorem va_newA2 (hexec : p.tables.exec = Jvm.exec) (hb : c.code = cc) {own : String} {index : Nat} (hown : s.vm.findClass own = some m.cls) (hclink : (Cond.classLink own index (FieldType.array .int).toString).before args s = true) (hover : va_AOA .int s) (hK : va_K D cl tys s) (hP : va_P D cl ws H) (hD : va_D A ws) (hS : va_S A H0 H locs) (hA : ∀ q, H0.size ≤ q → A q)
    {n : Int32} {N' : Nat} (hn : ¬ n < 0) (hN : n.toNatClampNeg = N') (hbytes : N' * 4 ≤ 536870912) (hcells : cells + 1 ≤ R.cells) (hslots : slots + N' ≤ R.slots) (hdg : decode cc pc = .ok (.anewarray index, 3))
    (kk : ∀ (q : Nat) (cA : ClassId) (H1 : Heap), va_K D cl (tys ++ [(cA, .array .int)]) s → va_P D cl (ws ++ [(q, .inl (cA, N', .inr (.inr (.inr (.inr (fun _ => none))))))]) H1 → va_D A (ws ++ [(q, .inl (cA, N', .inr (.inr (.inr (.inr (fun _ => none))))))]) → va_S A H0 H1 locs →
      W p l e R s m args below meth c H1 locs (cells + 1) (slots + N') Q (F0 m (pc + 3) ls (.ref q :: rest))) : W p l e R s m args below meth c H locs cells slots Q (F0 m pc ls (.int n :: rest)) := by
  subst hN
  refine W.anewA hexec hb hown hclink (va_AOA.use hover) rfl hdg rfl hn hbytes hcells hslots fun cA kA comp f1 f2 f3 f4 => ?_
  generalize hH1 : H.push ({ cls := cA, slots := Array.replicate n.toNatClampNeg .null, vm := .none } : Cell) = H1
  have z1 : H1.size = H.size + 1 := by rw [← hH1, Array.size_push]
  have o1 : ∀ q : Nat, q < H.size → H1[q]? = H[q]? := fun q hq => by rw [← hH1, Array.getElem?_push, if_neg (Nat.ne_of_lt hq)]
  have e1 : H1[H.size]? = some (vp_cell cA (n.toNatClampNeg, .inr (.inr (.inr (.inr (fun _ => none)))))) := by
    rw [← hH1, Array.getElem?_push, if_pos rfl, vp_cell_q]
    rw [arrV_new]
    rfl
  refine kk H.size cA H1 ⟨hK.1, fun k x hx => ?_⟩ ((hP.kept (fun k x hx => o1 x.1 ((hP k x hx).lt))).app (fun k x hx => ?_)) (hD.push hP rfl (hA _ hS.1)) ⟨Nat.le_trans hS.1 (by omega), fun x h1 h2 => (o1 x (Nat.lt_of_lt_of_le h1 hS.1)).trans (hS.2.1 x h1 h2), hS.2.2⟩
  · by_cases hl : k < tys.length
    · rw [List.getElem?_append_left hl] at hx
      exact hK.2 k x hx
    · rw [List.getElem?_append_right (by omega)] at hx
      have hz : k - tys.length < 1 := (List.getElem?_eq_some_iff.mp hx).1
      rw [show k - tys.length = 0 by omega] at hx
      cases hx
      exact ⟨fun n z => ⟨fun k h => (by cases h), kA, f2, comp, f3⟩, f1⟩
  · have hz : k < 1 := (List.getElem?_eq_some_iff.mp hx).1
    rw [show k = 0 by omega] at hx
    cases hx
    exact e1
end SDB
theorem isE_tys {h : Zh} {tys tz : List (ClassId × FieldType)} {b : Nat} {e : va_E} (k : isE h tys b e) : isE h (tys ++ tz) b e := ⟨k.1, fun z => by
  obtain ⟨cA, t, h1, h2⟩ := k.2 z
  exact ⟨cA, t, h1, by rw [List.getElem?_append_left (List.getElem?_eq_some_iff.mp h2).1]; exact h2⟩⟩
theorem inW_tys {h : Zh} {tys tz : List (ClassId × FieldType)} {ws : va_W} (k : inW h tys ws) : inW h (tys ++ tz) ws := fun a h1 h2 => by
  obtain ⟨i, e, h3, h4⟩ := k a h1 h2
  exact ⟨i, e, h3, isE_tys h4⟩
/-- what lies in the world isn't new -/
theorem fresh_of {h : Zh} {A : Nat → Prop} {tys : List (ClassId × FieldType)} {ws wx : va_W} {s : State} {i q : Nat} {x : va_E} (hI : inW h tys ws) (hC : SC A h s) (hD : va_D A (ws ++ wx)) (hi : ws.length ≤ i) (hq : (ws ++ wx)[i]? = some (q, x)) : gK h q = 0 := by
  refine Decidable.byContradiction fun n0 => ?_
  by_cases n1 : gK h q = 15
  · exact (hC q n1).1 (hD.2 i _ hq)
  · obtain ⟨k, e, h1, -⟩ := hI q n0 n1
    have hk : k < ws.length := (List.getElem?_eq_some_iff.mp h1).1
    have h2 : (ws ++ wx)[k]? = some (q, e) := by rw [List.getElem?_append_left hk]; exact h1
    have := hD.1 k i _ _ h2 hq rfl
    omega
theorem inW_push {h : Zh} {tys : List (ClassId × FieldType)} {ws : va_W} {q kd : Nat} {n : Int} {e : va_E} (hI : inW h tys ws) (hE : isE (nw h q kd n) tys q e) : inW (nw h q kd n) tys (ws ++ [(q, e)]) := by
  intro b h0 h1
  by_cases z : b = q
  · subst z
    exact ⟨ws.length, e, by rw [List.getElem?_append_right (Nat.le_refl _), Nat.sub_self]; rfl, hE⟩
  · have e1 : gK (nw h q kd n) b = gK h b := by rw [gK_nw, if_neg z]
    rw [e1] at h0 h1
    obtain ⟨k, x, h2, h3⟩ := hI b h0 h1
    refine ⟨k, x, by rw [List.getElem?_append_left (List.getElem?_eq_some_iff.mp h2).1]; exact h2, isE_congr e1 (by rw [gL_nw, if_neg z]) (fun i => by rw [gI_nw, if_neg z]) (fun i => by rw [gR_nw, if_neg z]) (fun i => by rw [gJ_nw, if_neg z]) h3⟩
theorem okh_nw {h : Zh} {q c : Nat} {n : Int} (ho : okh h) (hc : c ≤ 7 ∨ (10 ≤ c ∧ c ≤ 15)) (hn : 0 ≤ n ∧ n ≤ 1000000) (h1 : gC h + 1 ≤ MXC) (h2 : gS h + n.toNat ≤ MXS) : okh (nw h q c n) := ⟨fun a i => by rw [gI_nw]; split; exact z_0; exact ho.1 a i, fun a => by rw [gL_nw]; split; exact hn; exact ho.2.1 a, fun a => by rw [gK_nw]; split; exact hc; exact ho.2.2.1 a, h1, h2⟩
theorem SC_nw {A : Nat → Prop} {h : Zh} {q c : Nat} {n : Int} {s : State} (hC : SC A h s) (hc : c ≠ 15) : SC A (nw h q c n) s := hC.congr fun b hb => by
  have z : b ≠ q := fun z => hc (by rw [gK_nw, if_pos z] at hb; exact hb)
  rw [gK_nw, if_neg z] at hb
  exact ⟨hb, by rw [gL_nw, if_neg z], fun i => by rw [gI_nw, if_neg z]⟩
theorem gK_nws (h : Zh) (q c : Nat) (n : Int) : gK (nw h q c n) q = c := by rw [gK_nw, if_pos rfl]
theorem encF_nw (h : Zh) (q c : Nat) (n : Int) : encF (nw h q c n) q c = (List.range (nF c)).map (fun k => if fR c k = true then Value.null else Value.int 0) := by
  unfold encF
  refine List.map_congr_left fun k _ => ?_
  rw [gR_nw, gI_nw, if_pos rfl, if_pos rfl]
  rfl
section SD3
variable {G : GwT} {Md : Nat → MdT} {D : va_G} {A : Nat → Prop} {l : Launch}
theorem sd_new (m pc : Nat) (c ix : Nat) (C : String) (T : u_T) (N : Nat) (hcl : vwCl[c - 1]? = some (C, T, N)) (hc : 1 ≤ c ∧ c ≤ 7) (hN : nF c = N) (hin : ∀ w ∈ u_ws C T N, w ∈ mWs (Md m)) (ty0 : Nat → FieldType) (hty : ∀ k, k < N → parseFieldDescriptor (T k).2.2.1 = some (ty0 k)) (hdf : ∀ j, j < N → defaultValue (ty0 j) = if fR c j = true then Value.null else Value.int 0)
    (w1 : Cond.classLink (mOwn (Md m)) ix C ∈ mWs (Md m)) (w2 : Cond.instantiable C N ∈ mWs (Md m)) (w3 : Cond.initialized C ∈ mWs (Md m)) (hN2 : N ≤ 1000)
    (d : decode (mCod (Md m)) pc = .ok (.new ix, 3)) : SM G Md D A l m pc (oNew c N) := by
  refine ⟨mo_oNew c N, fun ls st h Q k pp ee RR ss mm aa bb me cc0 HH lc lsC c0 s0 ce se C0 hR hC hS hl ho hcu hsu => ?_⟩
  obtain ⟨⟨hx, hb, hml, hown, hts⟩, hr, hlk, hnm, het, hRm, htr, hA, hG⟩ := id C0
  unfold oNew at k
  obtain ⟨⟨k1, k2⟩, k⟩ := k
  obtain ⟨hok, ws, tys, hP, hD, hKK, hI⟩ := id hR
  have r1 : RR.cells = MXC - c0 := by rw [hRm]; rfl
  have r2 : RR.slots = MXS - s0 := by rw [hRm]; rfl
  refine va_new hx hb hts hin ty0 hty hown (hts _ w1) (hts _ w2) (hts _ w3) hKK hP hD hS hA hcl (fs := (List.range (nF c)).map (fun k => if fR c k = true then Value.null else Value.int 0)) (fun j hj => ?_) (by omega) (by omega) d (fun q H1 hP1 hD1 hS1 => ?_)
  · rw [hdf j hj]
    unfold vp_V
    rw [List.getD_eq_getElem?_getD, List.getElem?_map, List.getElem?_range (by omega)]
    rfl
  · have hf : gK h q = 0 := fresh_of hI hC hD1 (Nat.le_refl _) (by rw [List.getElem?_append_right (Nat.le_refl _), Nat.sub_self]; rfl)
    refine k q hf pp ee RR ss mm aa bb me cc0 H1 lc lsC c0 s0 (ce + 1) (se + N) C0 ⟨okh_nw hok (Or.inl hc.2) (by omega) k1 (by rw [Int.toNat_natCast]; exact k2), _, tys, hP1, hD1, hKK, inW_push hI (isE_mkO (c := c) (gK_nws _ _ _ _) hc.2 (by rw [encF_nw]))⟩ (SC_nw hC (by omega)) hS1 hl (List.forall_mem_cons.mpr ⟨trivial, ho⟩) (by rw [gC_nw]; omega) (by rw [gS_nw, Int.toNat_natCast]; omega)
theorem sd_newA (m pc : Nat) (c : Nat) (at0 : ArrayType) (hat : (at0 = .int ∧ c = 10) ∨ (at0 = .long ∧ c = 11) ∨ (at0 = .boolean ∧ c = 12)) (w1 : Cond.arrayClass (newarray.typeOf at0) ∈ mWs (Md m))
    (d : decode (mCod (Md m)) pc = .ok (.newarray at0, 2)) : SM G Md D A l m pc (oNewA c 2) := by
  refine ⟨mo_oNewA c 2, fun ls st h Q k pp ee RR ss mm aa bb me cc0 HH lc lsC c0 s0 ce se C0 hR hC hS hl ho hcu hsu => ?_⟩
  obtain ⟨⟨hx, hb, hml, hown, hts⟩, hr, hlk, hnm, het, hRm, htr, hA, hG⟩ := id C0
  unfold oNewA at k
  split at k
  · next n t =>
    obtain ⟨on, ho⟩ := List.forall_mem_cons.mp ho
    obtain ⟨⟨k0, k3, k1, k2⟩, k⟩ := k
    obtain ⟨hok, ws, tys, hP, hD, hKK, hI⟩ := id hR
    have r1 : RR.cells = MXC - c0 := by rw [hRm]; rfl
    have r2 : RR.slots = MXS - s0 := by rw [hRm]; rfl
    have fin : ∀ (q : Nat) (cA : ClassId) (H1 : Heap) (a0 : vp_A), va_K D vwCl (tys ++ [(cA, akT c)]) ss → va_P D vwCl (ws ++ [(q, .inl (cA, a0))]) H1 → va_D A (ws ++ [(q, .inl (cA, a0))]) → va_S A ss.heap H1 lc → akE (nw h q c n) q c = a0 → 10 ≤ c → c ≤ 12 →
        W pp l ee RR ss mm aa bb me cc0 H1 lc (ce + 1) (se + n.toNat) (EndZ D A Q c0 s0 bb ss) (F0 mm (pc + 2) lsC (.ref q :: t.map cz)) := by
      intro q cA H1 a0 hK1 hP1 hD1 hS1 he h10 h12
      have hf : gK h q = 0 := fresh_of hI hC hD1 (Nat.le_refl _) (by rw [List.getElem?_append_right (Nat.le_refl _), Nat.sub_self]; rfl)
      exact k q hf pp ee RR ss mm aa bb me cc0 H1 lc lsC c0 s0 (ce + 1) (se + n.toNat) C0 ⟨okh_nw hok (by omega) (by omega) k1 k2, _, _, hP1, hD1, hK1, inW_push (inW_tys hI) (isE_mkA (gK_nws _ _ _ _) h10 cA tys.length (by rw [he]) (by rw [List.getElem?_append_right (Nat.le_refl _), Nat.sub_self]; rfl))⟩ (SC_nw hC (by omega)) hS1 hl (List.forall_mem_cons.mpr ⟨trivial, ho⟩) (by rw [gC_nw]; omega) (by rw [gS_nw]; omega)
    have hb1 : n.toNat ≤ 1000000 := by omega
    rcases hat with ⟨rfl, rfl⟩ | ⟨rfl, rfl⟩ | ⟨rfl, rfl⟩
    · refine va_newa (ty := .int) (N' := n.toNat) (a0 := (n.toNat, .inl (fun _ => 0))) hx hb (hts _ w1) rfl hKK hP hD hS hA (fun _ => rfl) (z_nneg on k0) (z_cl on) (by show n.toNat * 4 ≤ _; omega) (by omega) (by omega) d (fun q cA H1 hK1 hP1 hD1 hS1 => fin q cA H1 _ hK1 hP1 hD1 hS1 ?_ (by omega) (by omega))
      show ((gL (nw h q 10 n) q).toNat, _) = (n.toNat, _)
      rw [gL_nw, if_pos rfl]
      exact congrArg (Prod.mk _) (congrArg Sum.inl (funext fun j => by rw [gI_nw, if_pos rfl]; rfl))
    · refine va_newa (ty := .long) (N' := n.toNat) (a0 := (n.toNat, .inr (.inl (fun _ => 0)))) hx hb (hts _ w1) rfl hKK hP hD hS hA (fun _ => rfl) (z_nneg on k0) (z_cl on) (by show n.toNat * 8 ≤ _; omega) (by omega) (by omega) d (fun q cA H1 hK1 hP1 hD1 hS1 => fin q cA H1 _ hK1 hP1 hD1 hS1 ?_ (by omega) (by omega))
      show ((gL (nw h q 11 n) q).toNat, _) = (n.toNat, _)
      rw [gL_nw, if_pos rfl]
      exact congrArg (Prod.mk _) (congrArg Sum.inr (congrArg Sum.inl (funext fun j => by rw [gJ_nw, if_pos rfl])))
    · refine va_newa (ty := .boolean) (N' := n.toNat) (a0 := (n.toNat, .inl (fun _ => 0))) hx hb (hts _ w1) rfl hKK hP hD hS hA (fun _ => rfl) (z_nneg on k0) (z_cl on) (by show n.toNat * 1 ≤ _; omega) (by omega) (by omega) d (fun q cA H1 hK1 hP1 hD1 hS1 => fin q cA H1 _ hK1 hP1 hD1 hS1 ?_ (by omega) (by omega))
      show ((gL (nw h q 12 n) q).toNat, _) = (n.toNat, _)
      rw [gL_nw, if_pos rfl]
      exact congrArg (Prod.mk _) (congrArg Sum.inl (funext fun j => by rw [gI_nw, if_pos rfl]; rfl))
  · exact k.elim
theorem sd_newR (m pc : Nat) (c ix : Nat) (C : String) (hat : (C = "Marginalia$Note" ∧ c = 13) ∨ (C = "[I" ∧ c = 14)) (w1 : Cond.classLink (mOwn (Md m)) ix C ∈ mWs (Md m))
    (d : decode (mCod (Md m)) pc = .ok (.anewarray ix, 3)) : SM G Md D A l m pc (oNewA c 3) := by
  refine ⟨mo_oNewA c 3, fun ls st h Q k pp ee RR ss mm aa bb me cc0 HH lc lsC c0 s0 ce se C0 hR hC hS hl ho hcu hsu => ?_⟩
  obtain ⟨⟨hx, hb, hml, hown, hts⟩, hr, hlk, hnm, het, hRm, htr, hA, hG⟩ := id C0
  unfold oNewA at k
  split at k
  · next n t =>
    obtain ⟨on, ho⟩ := List.forall_mem_cons.mp ho
    obtain ⟨⟨k0, k3, k1, k2⟩, k⟩ := k
    obtain ⟨hok, ws, tys, hP, hD, hKK, hI⟩ := id hR
    have r1 : RR.cells = MXC - c0 := by rw [hRm]; rfl
    have r2 : RR.slots = MXS - s0 := by rw [hRm]; rfl
    have fin : ∀ (q : Nat) (cA : ClassId) (H1 : Heap), va_K D vwCl (tys ++ [(cA, akT c)]) ss → va_P D vwCl (ws ++ [(q, .inl (cA, n.toNat, .inr (.inr (.inr (.inr (fun _ => none))))))]) H1 → va_D A (ws ++ [(q, .inl (cA, n.toNat, .inr (.inr (.inr (.inr (fun _ => none))))))]) → va_S A ss.heap H1 lc → c = 13 ∨ c = 14 →
        W pp l ee RR ss mm aa bb me cc0 H1 lc (ce + 1) (se + n.toNat) (EndZ D A Q c0 s0 bb ss) (F0 mm (pc + 3) lsC (.ref q :: t.map cz)) := by
      intro q cA H1 hK1 hP1 hD1 hS1 h13
      have hf : gK h q = 0 := fresh_of hI hC hD1 (Nat.le_refl _) (by rw [List.getElem?_append_right (Nat.le_refl _), Nat.sub_self]; rfl)
      have he : akE (nw h q c n) q c = (n.toNat, .inr (.inr (.inr (.inr (fun _ => none))))) := by
        rcases h13 with rfl | rfl <;>
        · show ((gL (nw h q _ n) q).toNat, _) = (n.toNat, _)
          rw [gL_nw, if_pos rfl]
          exact congrArg (Prod.mk _) (congrArg (fun z => Sum.inr (Sum.inr (Sum.inr (Sum.inr z)))) (funext fun j => by rw [gR_nw, if_pos rfl]))
      exact k q hf pp ee RR ss mm aa bb me cc0 H1 lc lsC c0 s0 (ce + 1) (se + n.toNat) C0 ⟨okh_nw hok (by omega) (by omega) k1 k2, _, _, hP1, hD1, hK1, inW_push (inW_tys hI) (isE_mkA (gK_nws _ _ _ _) (by omega) cA tys.length (by rw [he]) (by rw [List.getElem?_append_right (Nat.le_refl _), Nat.sub_self]; rfl))⟩ (SC_nw hC (by omega)) hS1 hl (List.forall_mem_cons.mpr ⟨trivial, ho⟩) (by rw [gC_nw]; omega) (by rw [gS_nw]; omega)
    have hb1 : n.toNat ≤ 1000000 := by omega
    rcases hat with ⟨rfl, rfl⟩ | ⟨rfl, rfl⟩
    · exact va_newq hx hb hown (hts _ w1) hG.2.2.2.2.2.2.2.1 hKK hP hD hS hA (z_nneg on k0) (z_cl on) (by omega) (by omega) (by omega) d (fun q cA H1 hK1 hP1 hD1 hS1 => fin q cA H1 hK1 hP1 hD1 hS1 (by omega))
    · exact va_newA2 hx hb hown (hts _ w1) hG.2.2.2.2.2.2.2.2 hKK hP hD hS hA (z_nneg on k0) (z_cl on) (by omega) (by omega) (by omega) d (fun q cA H1 hK1 hP1 hD1 hS1 => fin q cA H1 hK1 hP1 hD1 hS1 (by omega))
  · exact k.elim
end SD3
end
section
/-! SOUNDNESS of new int[n][m], arraycopy, Math, Object's constructor, returns, throws -/
theorem sum_cz : ∀ (r : List Zv), ((r.map cz).map (fun v => v.category)).sum = (r.map ctz).sum
  | [] => rfl
  | v :: r => by rw [List.map_cons, List.map_cons, List.map_cons, List.sum_cons, List.sum_cons, ctz_cz, sum_cz r]
section SD4
variable {G : GwT} {Md : Nat → MdT} {D : va_G} {A : Nat → Prop} {l : Launch}
theorem sd_max (m pc ix : Nat) (w1 : Cond.methodLink (mOwn (Md m)) ix Lib.Math.max.name ∈ mWs (Md m)) (w2 : Cond.static Lib.Math.max.name ∈ mWs (Md m)) (w3 : Cond.initialized "java/lang/Math" ∈ mWs (Md m)) (w4 : Cond.code Lib.Math.max.name Lib.Math.max.code 2 (some .int) ∈ mWs (Md m)) (hfr : 1 ≤ mFr (Md m)) (hlo : 21 ≤ mLo (Md m))
    (d : decode (mCod (Md m)) pc = .ok (.invokestatic ix, 3)) : SM G Md D A l m pc oMax := by
  refine ⟨mo_oMax, fun ls st h Q k pp ee RR ss mm aa bb me cc0 HH lc lsC c0 s0 ce se C0 hR hC hS hl ho hcu hsu => ?_⟩
  obtain ⟨⟨hx, hb, hml, hown, hts⟩, hr, hlk, hnm, het, hRm, htr, hA, hG⟩ := id C0
  have hok := hR.1
  unfold oMax at k
  split at k
  · next b a r =>
    obtain ⟨k0, k⟩ := k
    have oa : inR a := ho (zi a) (by simp)
    have ob : inR b := ho (zi b) (by simp)
    have hor : ∀ v ∈ r, okz v := fun v hv => ho v (by simp [hv])
    have e9 : (if Int32.ofInt a < Int32.ofInt b then Int32.ofInt b else Int32.ofInt a) = Int32.ofInt (if a < b then b else a) := by
      by_cases z : a < b
      · rw [if_pos z, if_pos ((z_lt oa ob).mpr z)]
      · rw [if_neg z, if_neg (fun q => z ((z_lt oa ob).mp q))]
    refine va_mmax hx hb (by rw [hml, hl.1]) hown (hts _ w1) (hts _ w2) (hts _ w3) (hts _ w4) (by rw [hRm]; exact hfr) (by rw [sum_cz, hRm]; show _ ≤ mLo (Md m); omega) (by rw [hRm]; show ce ≤ MXC - c0; have := hok.2.2.2.1; omega) (by rw [hRm]; show se ≤ MXS - s0; have := hok.2.2.2.2; omega) d ?_
    rw [e9]
    exact k pp ee RR ss mm aa bb me cc0 HH lc lsC c0 s0 ce se C0 hR hC hS hl (List.forall_mem_cons.mpr ⟨by show inR (if a < b then b else a); split; exact ob; exact oa, hor⟩) hcu hsu
  · exact k.elim
theorem sd_min (m pc ix : Nat) (w1 : Cond.methodLink (mOwn (Md m)) ix Lib.Math.min.name ∈ mWs (Md m)) (w2 : Cond.static Lib.Math.min.name ∈ mWs (Md m)) (w3 : Cond.initialized "java/lang/Math" ∈ mWs (Md m)) (w4 : Cond.code Lib.Math.min.name Lib.Math.min.code 2 (some .int) ∈ mWs (Md m)) (hfr : 1 ≤ mFr (Md m)) (hlo : 21 ≤ mLo (Md m))
    (d : decode (mCod (Md m)) pc = .ok (.invokestatic ix, 3)) : SM G Md D A l m pc oMin := by
  refine ⟨mo_oMin, fun ls st h Q k pp ee RR ss mm aa bb me cc0 HH lc lsC c0 s0 ce se C0 hR hC hS hl ho hcu hsu => ?_⟩
  obtain ⟨⟨hx, hb, hml, hown, hts⟩, hr, hlk, hnm, het, hRm, htr, hA, hG⟩ := id C0
  have hok := hR.1
  unfold oMin at k
  split at k
  · next b a r =>
    obtain ⟨k0, k⟩ := k
    have oa : inR a := ho (zi a) (by simp)
    have ob : inR b := ho (zi b) (by simp)
    have hor : ∀ v ∈ r, okz v := fun v hv => ho v (by simp [hv])
    have e9 : (if Int32.ofInt b < Int32.ofInt a then Int32.ofInt b else Int32.ofInt a) = Int32.ofInt (if b < a then b else a) := by
      by_cases z : b < a
      · rw [if_pos z, if_pos ((z_lt ob oa).mpr z)]
      · rw [if_neg z, if_neg (fun q => z ((z_lt ob oa).mp q))]
    refine va_mmin hx hb (by rw [hml, hl.1]) hown (hts _ w1) (hts _ w2) (hts _ w3) (hts _ w4) (by rw [hRm]; exact hfr) (by rw [sum_cz, hRm]; show _ ≤ mLo (Md m); omega) (by rw [hRm]; show ce ≤ MXC - c0; have := hok.2.2.2.1; omega) (by rw [hRm]; show se ≤ MXS - s0; have := hok.2.2.2.2; omega) d ?_
    rw [e9]
    exact k pp ee RR ss mm aa bb me cc0 HH lc lsC c0 s0 ce se C0 hR hC hS hl (List.forall_mem_cons.mpr ⟨by show inR (if b < a then b else a); split; exact ob; exact oa, hor⟩) hcu hsu
  · exact k.elim
theorem sd_abs (m pc ix : Nat) (w1 : Cond.methodLink (mOwn (Md m)) ix Lib.Math.abs.name ∈ mWs (Md m)) (w2 : Cond.static Lib.Math.abs.name ∈ mWs (Md m)) (w3 : Cond.initialized "java/lang/Math" ∈ mWs (Md m)) (w4 : Cond.code Lib.Math.abs.name Lib.Math.abs.code 1 (some .int) ∈ mWs (Md m)) (hfr : 1 ≤ mFr (Md m)) (hlo : 21 ≤ mLo (Md m))
    (d : decode (mCod (Md m)) pc = .ok (.invokestatic ix, 3)) : SM G Md D A l m pc oAbs := by
  refine ⟨mo_oAbs, fun ls st h Q k pp ee RR ss mm aa bb me cc0 HH lc lsC c0 s0 ce se C0 hR hC hS hl ho hcu hsu => ?_⟩
  obtain ⟨⟨hx, hb, hml, hown, hts⟩, hr, hlk, hnm, het, hRm, htr, hA, hG⟩ := id C0
  have hok := hR.1
  unfold oAbs at k
  split at k
  · next a r =>
    obtain ⟨⟨k0, kr⟩, k⟩ := k
    have oa : inR a := ho (zi a) (by simp)
    have hor : ∀ v ∈ r, okz v := fun v hv => ho v (by simp [hv])
    have e9 : (if 0 ≤ Int32.ofInt a then Int32.ofInt a else 0 - Int32.ofInt a) = Int32.ofInt (if a < 0 then -a else a) := by
      by_cases z : a < 0
      · rw [if_pos z, if_neg (fun q => by rw [z_0e, z_le z_0 oa] at q; omega), z_0e, ← Int32.ofInt_sub]
        congr 1
        omega
      · rw [if_neg z, if_pos (by rw [z_0e, z_le z_0 oa]; omega)]
    refine va_mabs hx hb (by rw [hml, hl.1]) hown (hts _ w1) (hts _ w2) (hts _ w3) (hts _ w4) (by rw [hRm]; exact hfr) (by rw [sum_cz, hRm]; show _ ≤ mLo (Md m); omega) (by rw [hRm]; show ce ≤ MXC - c0; have := hok.2.2.2.1; omega) (by rw [hRm]; show se ≤ MXS - s0; have := hok.2.2.2.2; omega) d ?_
    rw [e9]
    exact k pp ee RR ss mm aa bb me cc0 HH lc lsC c0 s0 ce se C0 hR hC hS hl (List.forall_mem_cons.mpr ⟨by show inR (if a < 0 then -a else a); split; exact kr; exact oa, hor⟩) hcu hsu
  · exact k.elim
theorem sd_obj (m pc ix : Nat) (w1 : Cond.methodLink (mOwn (Md m)) ix Lib.objectInit ∈ mWs (Md m)) (w2 : Cond.instanceMethod Lib.objectInit ∈ mWs (Md m)) (w3 : Cond.code Lib.objectInit ⟨#[0xb1]⟩ 1 none ∈ mWs (Md m)) (hfr : 1 ≤ mFr (Md m)) (hlo : 20 ≤ mLo (Md m))
    (d : decode (mCod (Md m)) pc = .ok (.invokespecial ix, 3)) : SM G Md D A l m pc oObj := by
  refine ⟨mo_oObj, fun ls st h Q k pp ee RR ss mm aa bb me cc0 HH lc lsC c0 s0 ce se C0 hR hC hS hl ho hcu hsu => ?_⟩
  obtain ⟨⟨hx, hb, hml, hown, hts⟩, hr, hlk, hnm, het, hRm, htr, hA, hG⟩ := id C0
  unfold oObj at k
  split at k
  · next a r =>
    obtain ⟨k0, k⟩ := k
    have hor : ∀ v ∈ r, okz v := fun v hv => ho v (by simp [hv])
    refine W.objInit hx hb hown (hts _ w1) (hts _ w2) (hts _ w3) rfl (by rw [hml]; exact hl.1) rfl d (by rw [hRm]; exact hfr) (by rw [sum_cz, hRm]; show 2 * 0 + _ + 12 ≤ mLo (Md m); omega) ?_
    exact k pp ee RR ss mm aa bb me cc0 HH lc lsC c0 s0 ce se C0 hR hC hS hl hor hcu hsu
  · exact k.elim
theorem okh_cpy {h : Zh} {s d : Nat} {sp dp n : Int} (ho : okh h) : okh (cpy h s sp d dp n) := ⟨fun b i => by rw [gI_cpy]; split <;> exact ho.1 _ _, ho.2.1, ho.2.2⟩
theorem sd_cpy (m pc ix : Nat) (w1 : Cond.methodLink (mOwn (Md m)) ix arraycopyName ∈ mWs (Md m)) (w2 : Cond.native arraycopyName ∈ mWs (Md m)) (w3 : Cond.static arraycopyName ∈ mWs (Md m)) (w4 : Cond.initialized "java/lang/System" ∈ mWs (Md m)) (hfr : 1 ≤ mFr (Md m)) (hlo : 8 + (nativeFrameWords "java/lang/System" "arraycopy" 5 + 11) ≤ mLo (Md m))
    (d : decode (mCod (Md m)) pc = .ok (.invokestatic ix, 3)) : SM G Md D A l m pc oCpy := by
  refine ⟨mo_oCpy, fun ls st h Q k pp ee RR ss mm aa bb me cc0 HH lc lsC c0 s0 ce se C0 hR hC hS hl ho hcu hsu => ?_⟩
  obtain ⟨⟨hx, hb, hml, hown, hts⟩, hr, hlk, hnm, het, hRm, htr, hA, hG⟩ := id C0
  unfold oCpy at k
  split at k
  · next n dp dr sp sr r =>
    obtain ⟨⟨k0, ⟨sa, rfl, hsa⟩, ⟨da, rfl, hda⟩, n0, sp0, dp0, hs1, hd1⟩, k⟩ := k
    have on : inR n := ho (zi n) (by simp)
    have od : inR dp := ho (zi dp) (by simp)
    have os : inR sp := ho (zi sp) (by simp)
    have hor : ∀ v ∈ r, okz v := fun v hv => ho v (by simp [hv])
    have hs1 : sp + n ≤ gL h sa := hs1
    have hd1 : dp + n ≤ gL h da := hd1
    obtain ⟨hok, ws, tys, hP, hD, hKK, hI⟩ := id hR
    obtain ⟨q0, e0, he0, hE0⟩ := hI sa (by omega) (by omega)
    obtain ⟨cA, t0, he2, ht0⟩ := isE_arr hE0 hsa (by omega)
    subst he2
    obtain ⟨q1, e1, he1, hE1⟩ := hI da (by omega) (by omega)
    obtain ⟨cB, t1, he3, ht1⟩ := isE_arr hE1 hda (by omega)
    subst he3
    refine va_copyi (ty := .int) hx hb (by rw [hml, hl.1]) hown (hts _ w1) (hts _ w2) (hts _ w3) (hts _ w4) hKK hP hD hS q0 q1 t0 t1 he0 he1 ht0 ht1 rfl (z_nneg os sp0) (z_nneg od dp0) (z_nneg on n0) (by rw [z_cl os, z_cl on]; omega) (by rw [z_cl od, z_cl on]; omega) (fun _ _ => rfl) (by rw [hRm]; exact hfr) (by rw [sum_cz, hRm]; show _ ≤ mLo (Md m); omega) d (fun H1 lc1 hP1 hD1 hS1 => ?_)
    rw [z_cl os, z_cl od, z_cl on] at hP1 hD1
    refine k pp ee RR ss mm aa bb me cc0 H1 lc1 lsC c0 s0 ce se C0 ⟨okh_cpy hok, _, tys, hP1, hD1, hKK, inW_set hI he1 (fun _ => rfl) (fun _ => rfl) (fun b nb j => by rw [gI_cpy, if_neg (fun z => nb z.1)]) (fun b nb j => rfl) (fun b nb j => rfl) (isE_mkA hda (by omega) cB t1 ?_ ht1)⟩ (hC.congr fun b hb9 => ⟨hb9, rfl, fun i => by rw [gI_cpy, if_neg (fun z => by have e5 : b = da := z.1; have e6 : gK h b = 15 := hb9; rw [e5, hda] at e6; omega)]⟩) hS1 hl hor hcu hsu
    refine congrArg Sum.inl (congrArg (Prod.mk cB) ?_)
    show ((gL h da).toNat, _) = ((gL h da).toNat, _)
    refine congrArg (Prod.mk _) (congrArg Sum.inl (funext fun j => ?_))
    show va_cpy (fun j : Nat => Int32.ofInt (gI h sa j)) (fun j : Nat => Int32.ofInt (gI h da j)) sp.toNat dp.toNat n.toNat j = Int32.ofInt (gI (cpy h sa sp da dp n) da j)
    rw [gI_cpy]
    unfold va_cpy
    by_cases z : dp.toNat ≤ j ∧ j < dp.toNat + n.toNat
    · rw [if_pos z, if_pos ⟨rfl, by omega, by omega⟩]
      show Int32.ofInt (gI h sa ((sp.toNat + (j - dp.toNat) : Nat) : Int)) = _
      rw [show ((sp.toNat + (j - dp.toNat) : Nat) : Int) = sp + (j - dp) by omega]
    · rw [if_neg z, if_neg (fun y => z (by have := y.2; omega))]
  · exact k.elim
theorem inW_nw2 {h : Zh} {tys : List (ClassId × FieldType)} {ws : va_W} {q : Nat} {r : Nat → Nat} {n : Nat} {k : Int} {cA cy : ClassId} {t1 t2 : Nat} {z : va_E} {f : Nat → va_E} (hI : inW h tys ws) (hn : ∀ i, i < n → r i ≠ q) (hfq : gK h q = 0) (hfr : ∀ i, i < n → gK h (r i) = 0)
    (h1 : tys[t1]? = some (cA, .array .int)) (h2 : tys[t2]? = some (cy, .int)) (hk : 0 ≤ k) (hz : z = .inl (cy, k.toNat, .inl (fun _ => 0))) :
    inW (nw2 h q r n k) tys ((ws ++ [(q, .inl (cA, n, .inr (.inr (.inr (.inr (fun i => if i < n then some (r i) else none))))))]) ++ va_pl ([] ++ (List.range n).map r) (vr_up f ((List.range n).map r) z)) := by
  have hmem : ∀ b, b ∈ (List.range n).map r → ∃ i, i < n ∧ r i = b := fun b hb => by
    obtain ⟨i, hi, rfl⟩ := List.mem_map.mp hb
    exact ⟨i, List.mem_range.mp hi, rfl⟩
  intro b h0 h15
  by_cases e1 : b = q
  · subst e1
    refine ⟨ws.length, _, by rw [List.getElem?_append_left (by simp), List.getElem?_append_right (Nat.le_refl _), Nat.sub_self]; rfl, ?_⟩
    refine isE_mkA (c := 14) (by rw [gK_nw2, if_pos rfl]) (by omega) cA t1 (congrArg Sum.inl (congrArg (Prod.mk cA) ?_)) h1
    show _ = ((gL (nw2 h b r n k) b).toNat, _)
    rw [gL_nw2, if_pos rfl, Int.toNat_natCast]
    refine congrArg (Prod.mk _) (congrArg (fun z => Sum.inr (Sum.inr (Sum.inr (Sum.inr z)))) (funext fun j => ?_))
    rw [gR_nw2, if_pos rfl]
    by_cases hj : j < n
    · rw [if_pos hj, if_pos (by omega), Int.toNat_natCast]
    · rw [if_neg hj, if_neg (by omega)]
  · by_cases e2 : b ∈ (List.range n).map r
    · obtain ⟨i, hi⟩ := List.getElem?_of_mem e2
      have e5 : ∀ y : va_E, ws.length + 1 + i - (ws ++ [(q, y)]).length = i := fun y => by simp <;> omega
      refine ⟨ws.length + 1 + i, z, ?_, ?_⟩
      · rw [List.getElem?_append_right (by simp <;> omega), e5]
        unfold va_pl
        rw [List.nil_append, List.getElem?_map, hi]
        show some (b, vr_up f _ z b) = _
        rw [vr_up_in e2]
      · subst hz
        refine isE_mkA (c := 10) (by rw [gK_nw2, if_neg e1, if_pos e2]) (by omega) cy t2 (congrArg Sum.inl (congrArg (Prod.mk cy) ?_)) h2
        show _ = ((gL (nw2 h q r n k) b).toNat, _)
        rw [gL_nw2, if_neg e1, if_pos e2]
        refine congrArg (Prod.mk _) (congrArg Sum.inl (funext fun j => ?_))
        rw [gI_nw2, if_pos (Or.inr e2)]
        rfl
    · have e3 : gK (nw2 h q r n k) b = gK h b := by rw [gK_nw2, if_neg e1, if_neg e2]
      rw [e3] at h0 h15
      obtain ⟨i, x, hx1, hx2⟩ := hI b h0 h15
      have hlt := (List.getElem?_eq_some_iff.mp hx1).1
      refine ⟨i, x, by rw [List.getElem?_append_left (by simp; omega), List.getElem?_append_left hlt]; exact hx1, isE_congr e3 (by rw [gL_nw2, if_neg e1, if_neg e2]) (fun j => by rw [gI_nw2, if_neg (fun y => y.elim e1 e2)]) (fun j => by rw [gR_nw2, if_neg e1, if_neg e2]) (fun j => by rw [gJ_nw2, if_neg (fun y => y.elim e1 e2)]) hx2⟩
theorem sd_new2 (m pc ix : Nat) (w1 : Cond.classLink (mOwn (Md m)) ix ("[" ++ (FieldType.array .int).toString) ∈ mWs (Md m)) (w2 : Cond.arrayClass .int ∈ mWs (Md m))
    (d : decode (mCod (Md m)) pc = .ok (.multianewarray ix 2, 4)) : SM G Md D A l m pc oNew2 := by
  refine ⟨mo_oNew2, fun ls st h Q k9 pp ee RR ss mm aa bb me cc0 HH lc lsC c0 s0 ce se C0 hR hC hS hl ho hcu hsu => ?_⟩
  obtain ⟨⟨hx, hb, hml, hown, hts⟩, hr, hlk, hnm, het, hRm, htr, hA, hG⟩ := id C0
  unfold oNew2 at k9
  split at k9
  · next k n t =>
    obtain ⟨⟨n0, n1, k0, k1, hc1, hc2⟩, k9⟩ := k9
    have on : inR n := ho (zi n) (by simp)
    have ok9 : inR k := ho (zi k) (by simp)
    have hor : ∀ v ∈ t, okz v := fun v hv => ho v (by simp [hv])
    obtain ⟨hok, ws, tys, hP, hD, hKK, hI⟩ := id hR
    obtain ⟨cy, ky, compy, f1, f2, f3⟩ := Cond.arrayClass_spec (hts _ w2)
    have hKK2 : va_K D vwCl (tys ++ [(cy, .int)]) ss := ⟨hKK.1, fun i x hx9 => by
      by_cases hl9 : i < tys.length
      · rw [List.getElem?_append_left hl9] at hx9
        exact hKK.2 i x hx9
      · rw [List.getElem?_append_right (by omega)] at hx9
        have hz : i - tys.length < 1 := (List.getElem?_eq_some_iff.mp hx9).1
        rw [show i - tys.length = 0 by omega] at hx9
        cases hx9
        exact ⟨fun n z => ⟨fun k h => (by cases h), ky, f2, compy, f3⟩, f1⟩⟩
    have b1 : k.toNat ≤ 1000 := by omega
    have b2 : n.toNat ≤ 1000 := by omega
    have e8 : (FieldType.array .int).toString = "[" ++ FieldType.int.toString := rfl
    refine va_mna (X := ws) (L := []) (f := fun _ => .inr (0, [])) (N' := n.toNat) (K' := k.toNat) (z := (k.toNat, .inl (fun _ => 0))) hx hb hown (hts _ w1) hG.2.2.2.2.2.2.2.2 (hts _ w2) (cy := cy) (by rw [e8]; exact f1) hKK2 (by rw [show va_pl [] (fun _ => (.inr (0, []) : va_E)) = [] from rfl, List.append_nil]; exact hP) (by rw [show va_pl [] (fun _ => (.inr (0, []) : va_E)) = [] from rfl, List.append_nil]; exact hD) hS hA (z_nneg on n0) (z_nneg ok9 k0) (z_cl on) (z_cl ok9) (by omega) (by show k.toNat * 4 ≤ _; omega) (by omega) rfl rfl (by rw [hRm]; show ce + (1 + n.toNat) ≤ MXC - c0; omega) (by rw [hRm]; show se + (n.toNat + n.toNat * k.toNat) ≤ MXS - s0; omega) (fun c => by show ({ cls := c, slots := Array.replicate k.toNat (defaultValue .int), vm := .none } : Cell) = _; rw [arrV_new]; rfl) d (fun q r cA H1 hinj hnL hK1 hP1 hD1 hS1 => ?_)
    have eP : ∀ (y : va_W), (ws ++ [(q, .inl (cA, n.toNat, .inr (.inr (.inr (.inr (fun i => if i < n.toNat then some (r i) else none))))))]) ++ y = ws ++ ([(q, .inl (cA, n.toNat, .inr (.inr (.inr (.inr (fun i => if i < n.toNat then some (r i) else none))))))] ++ y) := fun y => List.append_assoc _ _ _
    have hD2 := hD1
    rw [eP] at hD2
    have hq0 : gK h q = 0 := fresh_of (i := ws.length) hI hC hD2 (Nat.le_refl _) (by rw [List.getElem?_append_right (Nat.le_refl _), Nat.sub_self]; rfl)
    have hri : ∀ i, i < n.toNat → (((ws ++ [(q, .inl (cA, n.toNat, .inr (.inr (.inr (.inr (fun i => if i < n.toNat then some (r i) else none))))))]) ++ va_pl ([] ++ (List.range n.toNat).map r) (vr_up (fun _ => .inr (0, [])) ((List.range n.toNat).map r) (.inl (cy, (k.toNat, .inl (fun _ => 0)))))) : va_W)[ws.length + 1 + i]? = some (r i, .inl (cy, (k.toNat, .inl (fun _ => 0)))) := fun i hi => by
      rw [List.getElem?_append_right (by simp <;> omega)]
      rw [show ws.length + 1 + i - (ws ++ [(q, (.inl (cA, n.toNat, .inr (.inr (.inr (.inr (fun i => if i < n.toNat then some (r i) else none))))) : va_E))]).length = i by simp <;> omega]
      unfold va_pl
      rw [List.nil_append, List.getElem?_map, List.getElem?_map, List.getElem?_range hi]
      show some (r i, vr_up _ _ _ (r i)) = _
      rw [vr_up_in (List.mem_map.mpr ⟨i, List.mem_range.mpr hi, rfl⟩)]
    have hr0 : ∀ i, i < n.toNat → gK h (r i) = 0 ∧ r i ≠ q := fun i hi => by
      refine ⟨fresh_of (i := ws.length + 1 + i) hI hC hD2 (by omega) (by rw [← eP]; exact hri i hi), fun e => ?_⟩
      have := hD1.1 (ws.length + 1 + i) ws.length _ _ (hri i hi) (by rw [List.getElem?_append_left (by simp), List.getElem?_append_right (Nat.le_refl _), Nat.sub_self]; rfl) e
      omega
    refine k9 q r hq0 hr0 hinj pp ee RR ss mm aa bb me cc0 H1 lc lsC c0 s0 (ce + 1 + n.toNat) (se + n.toNat + n.toNat * k.toNat) C0 ⟨⟨fun a i => ?_, fun a => ?_, fun a => ?_, hc1, hc2⟩, _, _, hP1, hD1, hK1, inW_nw2 (cA := cA) (cy := cy) (t1 := (tys ++ [((cy, FieldType.int) : ClassId × FieldType)]).length) (t2 := tys.length) (inW_tys (inW_tys hI)) (fun i hi => (hr0 i hi).2) hq0 (fun i hi => (hr0 i hi).1) (by rw [List.getElem?_append_right (Nat.le_refl _), Nat.sub_self]; rfl) (by rw [List.getElem?_append_left (by simp), List.getElem?_append_right (Nat.le_refl _), Nat.sub_self]; rfl) k0 rfl⟩ (hC.congr fun b hb9 => ?_) hS1 hl (List.forall_mem_cons.mpr ⟨trivial, hor⟩) (by rw [gC_nw2]; omega) (by rw [gS_nw2]; omega)
    · rw [gI_nw2]; split; exact z_0; exact hok.1 a i
    · rw [gL_nw2]; split; omega; split; omega; exact hok.2.1 a
    · rw [gK_nw2]; split; omega; split; omega; exact hok.2.2.1 a
    · rw [gK_nw2] at hb9
      by_cases z1 : b = q
      · rw [if_pos z1] at hb9; omega
      · rw [if_neg z1] at hb9
        by_cases z2 : b ∈ (List.range n.toNat).map r
        · rw [if_pos z2] at hb9; omega
        · rw [if_neg z2] at hb9
          exact ⟨hb9, by rw [gL_nw2, if_neg z1, if_neg z2], fun i => by rw [gI_nw2, if_neg (fun y => y.elim z1 z2)]⟩
  · exact k9.elim
/-- from the kit's ends to ours -/
theorem end_ret {h : Zh} {Q : Zp} {s : State} {H : Heap} {locs : List Loc} {args : Array Value} {below : List Frame} {c0 s0 ce se : Nat} (hR : RH D A h s H) (hC : SC A h s) (hS : va_S A s.heap H locs) (hcu : gC h = c0 + ce) (hsu : gS h = s0 + se) {v : Option Zv} (hv : ∀ x, v = some x → okz x) (hQ : Q (.inl v) h) :
    ∀ t, MQ below (fun _ st o t => o = .returned (v.map cz) ∧ t.heap = H ∧ st.WarmedH t.vm) args s ce se A t → EndZ D A Q c0 s0 below s t := by
  rintro t ⟨o, c1, c2, ⟨rfl, hh, hW⟩, L, hF, hL⟩
  refine ⟨_, c1, c2, Or.inl ⟨v, h, L, rfl, hv, hQ, by rw [hh]; exact hR.moved hW.alike, SC.fwd hW.alike (by rw [hh]; exact hS.1) (fun a h1 h2 => by rw [hh]; exact hS.2.1 a h1 h2) hC, hS.F hh, by omega, by omega, ?_, hL⟩⟩
  rw [show gC h - c0 = ce by omega, show gS h - s0 = se by omega]
  exact hF
theorem sd_iret (m pc : Nat) (hret : mRet (Md m) = some .int) (d : decode (mCod (Md m)) pc = .ok (.ireturn, 1)) : SM G Md D A l m pc oRetI := by
  refine ⟨mo_oRetI, fun ls st h Q k pp ee RR ss mm aa bb me cc0 HH lc lsC c0 s0 ce se C0 hR hC hS hl ho hcu hsu => ?_⟩
  obtain ⟨⟨hx, hb, hml, hown, hts⟩, hr, hlk, hnm, het, hRm, htr, hA, hG⟩ := id C0
  unfold oRetI at k
  split at k
  · next x =>
    exact W_mo (end_ret hR hC hS hcu hsu (v := some (zi x)) (fun y e => by cases e; exact ho _ List.mem_cons_self) k) (W.iret hx hb (by rw [hr, hret]) (fun t h1 h2 => ⟨rfl, h1, h2⟩) hS.2.2 d hlk)
  · exact k.elim
theorem sd_zret (m pc : Nat) (hret : mRet (Md m) = some .boolean) (d : decode (mCod (Md m)) pc = .ok (.ireturn, 1)) : SM G Md D A l m pc oRetZ := by
  refine ⟨mo_oRetZ, fun ls st h Q k pp ee RR ss mm aa bb me cc0 HH lc lsC c0 s0 ce se C0 hR hC hS hl ho hcu hsu => ?_⟩
  obtain ⟨⟨hx, hb, hml, hown, hts⟩, hr, hlk, hnm, het, hRm, htr, hA, hG⟩ := id C0
  unfold oRetZ at k
  split at k
  · next x =>
    obtain ⟨h01, k⟩ := k
    exact W_mo (end_ret hR hC hS hcu hsu (v := some (zi x)) (fun y e => by cases e; exact ho _ List.mem_cons_self) k) (W.zret hx hb (by rw [hr, hret]) (by rcases h01 with rfl | rfl <;> rfl) (fun t h1 h2 => ⟨rfl, h1, h2⟩) hS.2.2 d hlk)
  · exact k.elim
theorem sd_lret (m pc : Nat) (hret : mRet (Md m) = some .long) (d : decode (mCod (Md m)) pc = .ok (.lreturn, 1)) : SM G Md D A l m pc oRetL := by
  refine ⟨mo_oRetL, fun ls st h Q k pp ee RR ss mm aa bb me cc0 HH lc lsC c0 s0 ce se C0 hR hC hS hl ho hcu hsu => ?_⟩
  obtain ⟨⟨hx, hb, hml, hown, hts⟩, hr, hlk, hnm, het, hRm, htr, hA, hG⟩ := id C0
  unfold oRetL at k
  split at k
  · next x =>
    exact W_mo (end_ret hR hC hS hcu hsu (v := some (zl x)) (fun y e => by cases e; trivial) k) (W.lret hx hb (by rw [hr, hret]) (fun t h1 h2 => ⟨rfl, h1, h2⟩) hS.2.2 d hlk)
  · exact k.elim
theorem sd_dret (m pc : Nat) (hret : mRet (Md m) = some .double) (d : decode (mCod (Md m)) pc = .ok (.dreturn, 1)) : SM G Md D A l m pc oRetD := by
  refine ⟨mo_oRetD, fun ls st h Q k pp ee RR ss mm aa bb me cc0 HH lc lsC c0 s0 ce se C0 hR hC hS hl ho hcu hsu => ?_⟩
  obtain ⟨⟨hx, hb, hml, hown, hts⟩, hr, hlk, hnm, het, hRm, htr, hA, hG⟩ := id C0
  unfold oRetD at k
  split at k
  · next x =>
    exact W_mo (end_ret hR hC hS hcu hsu (v := some (zd x)) (fun y e => by cases e; trivial) k) (W.dret hx hb (by rw [hr, hret]) (fun t h1 h2 => ⟨rfl, h1, h2⟩) hS.2.2 d hlk)
  · exact k.elim
theorem sd_aret (m pc : Nat) {rt : FieldType} (hret : mRet (Md m) = some rt) (hrt : (∃ n, rt = .object n) ∨ ∃ t, rt = .array t) (d : decode (mCod (Md m)) pc = .ok (.areturn, 1)) : SM G Md D A l m pc oRetR := by
  refine ⟨mo_oRetR, fun ls st h Q k pp ee RR ss mm aa bb me cc0 HH lc lsC c0 s0 ce se C0 hR hC hS hl ho hcu hsu => ?_⟩
  obtain ⟨⟨hx, hb, hml, hown, hts⟩, hr, hlk, hnm, het, hRm, htr, hA, hG⟩ := id C0
  unfold oRetR at k
  split at k
  · next x =>
    exact W_mo (end_ret hR hC hS hcu hsu (v := some (zr x)) (fun y e => by cases e; trivial) k) (W.aret hx hb (by rw [hr, hret]) hrt (by cases x; exact Or.inl rfl; exact Or.inr ⟨_, rfl⟩) (fun t h1 h2 => ⟨rfl, h1, h2⟩) hS.2.2 d hlk)
  · exact k.elim
theorem sd_vret (m pc : Nat) (hret : mRet (Md m) = none) (d : decode (mCod (Md m)) pc = .ok (.return_, 1)) : SM G Md D A l m pc oRetV := by
  refine ⟨mo_oRetV, fun ls st h Q k pp ee RR ss mm aa bb me cc0 HH lc lsC c0 s0 ce se C0 hR hC hS hl ho hcu hsu => ?_⟩
  obtain ⟨⟨hx, hb, hml, hown, hts⟩, hr, hlk, hnm, het, hRm, htr, hA, hG⟩ := id C0
  unfold oRetV at k
  split at k
  · exact W_mo (end_ret hR hC hS hcu hsu (v := none) (fun y e => by cases e) k) (W.vret hx hb (by rw [hr, hret]) (fun t h1 h2 => ⟨rfl, h1, h2⟩) hS.2.2 d hlk)
  · exact k.elim
/-- the superclasses of what is thrown, below Throwable -/
def xsup : List String := ["java/lang/RuntimeException", "java/lang/Exception"]
theorem RH_tk {h : Zh} {s t : State} {H : Heap} (hR : RH D A h s H) (hvm : s.vm.Alike t.vm) (hk : ∀ q : Nat, q < H.size → t.heap[q]? = H[q]?) (h1 : gC h + 1 ≤ MXC) (h2 : gS h + 6 ≤ MXS) : RH D A (tk h) t t.heap := by
  obtain ⟨hok, ws, tys, hP, hD, hKK, hI⟩ := hR
  exact ⟨⟨hok.1, hok.2.1, hok.2.2.1, h1, h2⟩, ws, tys, hP.kept (fun k x hx => hk x.1 ((hP k x hx).lt)), hD, hKK.moved hvm, fun a ha hb => by
    obtain ⟨i, e, g1, g2⟩ := hI a ha hb
    exact ⟨i, e, g1, isE_congr rfl rfl (fun _ => rfl) (fun _ => rfl) (fun _ => rfl) g2⟩⟩
theorem end_thr {h : Zh} {Q : Zp} {s : State} {H : Heap} {locs : List Loc} {args : Array Value} {below : List Frame} {c0 s0 ce se e : Nat} (hR : RH D A h s H) (hC : SC A h s) (hS : va_S A s.heap H locs) (hcu : gC h = c0 + ce) (hsu : gS h = s0 + se) (h1 : gC h + 1 ≤ MXC) (h2 : gS h + 6 ≤ MXS) (hQ : Q (.inr e) (tk h)) :
    ∀ t, vx_MQ below (fun _ _ _ _ => False) (fun E st t => E = xcl e ∧ st.vm.Alike t.vm ∧ H.size ≤ t.heap.size ∧ ∀ q : Nat, q < H.size → t.heap[q]? = H[q]?) args s (ce + 1) (se + 6) A t → EndZ D A Q c0 s0 below s t := by
  rintro t ⟨o, c1, c2, ⟨hf, -⟩ | ⟨q, rfl, E, cell, L, ⟨rfl, hvm, hsz, hk⟩, hq, hv, hcl, hW, hsm, hL⟩⟩
  · exact hf.elim
  · have hk2 : ∀ a : Nat, a < s.heap.size → ¬ A a → t.heap[a]? = s.heap[a]? := fun a g1 g2 => by rw [hk a (Nat.lt_of_lt_of_le g1 hS.1)]; exact hS.2.1 a g1 g2
    refine ⟨_, c1, c2, Or.inr ⟨q, e, cell, rfl, ⟨tk h, L, hQ, RH_tk hR hvm hk h1 h2, SC.fwd hvm (Nat.le_trans hS.1 hsz) hk2 (hC.congr fun b hb => ⟨hb, rfl, fun i => rfl⟩), ⟨Nat.le_trans hS.1 hsz, hk2⟩, by rw [gC_tk]; omega, by rw [gS_tk]; omega, ?_, hL⟩, hq, hv, hcl, hW⟩⟩
    rw [show gC (tk h) - c0 = ce + 1 by rw [gC_tk]; omega, show gS (tk h) - s0 = se + 6 by rw [gS_tk]; omega]
    exact hsm
theorem sd_thr (m pc e ik is ic : Nat) (text : String) (hcls : Bundle.fit (xcl e) = true) (hnames : ∀ n ∈ xsup, Bundle.fit n = true) (w1 : Cond.classLink (mOwn (Md m)) ik (xcl e) ∈ mWs (Md m)) (w2 : Cond.initialized (xcl e) ∈ mWs (Md m)) (w3 : (mOwn (Md m), is, text) ∈ G.1)
    (hat : ∀ w ∈ vx_atS (mOwn (Md m)) ic (xcl e) xsup, w ∈ mWs (Md m) ∨ (∃ q ∈ G.2.2.1, w = .castable q.1 q.2) ∨ ∃ q ∈ G.2.2.2.2.2, w = .declares q) (hgood : ∀ w ∈ Cond.classLink (mOwn (Md m)) ik (xcl e) :: Cond.initialized (xcl e) :: vx_atS (mOwn (Md m)) ic (xcl e) xsup, vx_ot w = true) (hfr : 6 ≤ mFr (Md m)) (hlo : 90 ≤ mLo (Md m)) (hhh : mHH (Md m) = [])
    (d0 : decode (mCod (Md m)) pc = .ok (.new ik, 3)) (d3 : decode (mCod (Md m)) (pc + 3) = .ok (.dup, 1)) (d4 : decode (mCod (Md m)) (pc + 4) = .ok (.ldc is, 2)) (d6 : decode (mCod (Md m)) (pc + 6) = .ok (.invokespecial ic, 3)) (d9 : decode (mCod (Md m)) (pc + 9) = .ok (.athrow, 1)) : SM G Md D A l m pc (oThr e) := by
  refine ⟨mo_oThr e, fun ls st h Q k pp ee RR ss mm aa bb me cc0 HH lc lsC c0 s0 ce se C0 hR hC hS hl ho hcu hsu => ?_⟩
  obtain ⟨⟨hx, hb, hml, hown, hts⟩, hr, hlk, hnm, het, hRm, htr, hA, hG⟩ := id C0
  obtain ⟨⟨k0, k1, k2⟩, k⟩ := k
  obtain ⟨sa, hsa⟩ := hG.2.2.1 _ w3
  refine W_mo (end_thr hR hC hS hcu hsu k1 k2 k) (vx_throwS (A := A) hx hb htr hown hcls hnames (hts _ w1) (hts _ w2) hsa (fun w hw => ?_) hgood hG.1 hG.2.1 hS (by rw [hml]; exact hl.1) d0 d3 d4 d6 d9 (fun x hx9 => by rw [het, hhh] at hx9; cases hx9) (by rw [hRm]; show xsup.length + 3 < mFr (Md m); simp [xsup]; omega) (by rw [sum_cz, hRm]; show _ ≤ mLo (Md m); simp [xsup]; omega) (by rw [hRm]; show ce + 1 ≤ MXC - c0; omega) (by rw [hRm]; show se + 6 ≤ MXS - s0; omega) hlk (fun t g1 g2 g3 => ⟨rfl, g1, g2, g3⟩) hS.2.2 (Nat.le_refl _) (Nat.le_refl _))
  rcases hat w hw with g | ⟨q, g1, rfl⟩ | ⟨q, g1, rfl⟩
  · exact hts _ g
  · exact va_tabs rfl rfl (hG.2.2.2.2.1.1 q g1)
  · exact va_tabs rfl rfl (hG.2.2.2.2.1.2 q g1)
theorem sd_thrW (m pc e ik is ic : Nat) (text : String) (hcls : Bundle.fit (xcl e) = true) (hnames : ∀ n ∈ xsup, Bundle.fit n = true) (w1 : Cond.classLink (mOwn (Md m)) ik (xcl e) ∈ mWs (Md m)) (w2 : Cond.initialized (xcl e) ∈ mWs (Md m)) (w3 : (mOwn (Md m), is, text) ∈ G.1)
    (hat : ∀ w ∈ vx_atS (mOwn (Md m)) ic (xcl e) xsup, w ∈ mWs (Md m) ∨ (∃ q ∈ G.2.2.1, w = .castable q.1 q.2) ∨ ∃ q ∈ G.2.2.2.2.2, w = .declares q) (hgood : ∀ w ∈ Cond.classLink (mOwn (Md m)) ik (xcl e) :: Cond.initialized (xcl e) :: vx_atS (mOwn (Md m)) ic (xcl e) xsup, vx_ot w = true) (hfr : 6 ≤ mFr (Md m)) (hlo : 90 ≤ mLo (Md m)) (hhh : mHH (Md m) = [])
    (d0 : decode (mCod (Md m)) pc = .ok (.new ik, 3)) (d3 : decode (mCod (Md m)) (pc + 3) = .ok (.dup, 1)) (d4 : decode (mCod (Md m)) (pc + 4) = .ok (.ldc_w is, 3)) (d6 : decode (mCod (Md m)) (pc + 7) = .ok (.invokespecial ic, 3)) (d9 : decode (mCod (Md m)) (pc + 10) = .ok (.athrow, 1)) : SM G Md D A l m pc (oThr e) := by
  refine ⟨mo_oThr e, fun ls st h Q k pp ee RR ss mm aa bb me cc0 HH lc lsC c0 s0 ce se C0 hR hC hS hl ho hcu hsu => ?_⟩
  obtain ⟨⟨hx, hb, hml, hown, hts⟩, hr, hlk, hnm, het, hRm, htr, hA, hG⟩ := id C0
  obtain ⟨⟨k0, k1, k2⟩, k⟩ := k
  obtain ⟨sa, hsa⟩ := hG.2.2.1 _ w3
  refine W_mo (end_thr hR hC hS hcu hsu k1 k2 k) (vx_throwSW (A := A) hx hb htr hown hcls hnames (hts _ w1) (hts _ w2) hsa (fun w hw => ?_) hgood hG.1 hG.2.1 hS (by rw [hml]; exact hl.1) d0 d3 d4 d6 d9 (fun x hx9 => by rw [het, hhh] at hx9; cases hx9) (by rw [hRm]; show xsup.length + 3 < mFr (Md m); simp [xsup]; omega) (by rw [sum_cz, hRm]; show _ ≤ mLo (Md m); simp [xsup]; omega) (by rw [hRm]; show ce + 1 ≤ MXC - c0; omega) (by rw [hRm]; show se + 6 ≤ MXS - s0; omega) hlk (fun t g1 g2 g3 => ⟨rfl, g1, g2, g3⟩) hS.2.2 (Nat.le_refl _) (Nat.le_refl _))
  rcases hat w hw with g | ⟨q, g1, rfl⟩ | ⟨q, g1, rfl⟩
  · exact hts _ g
  · exact va_tabs rfl rfl (hG.2.2.2.2.1.1 q g1)
  · exact va_tabs rfl rfl (hG.2.2.2.2.1.2 q g1)
end SD4
end
section
/-! SOUNDNESS of calls: a body's soundness is its contract; behind a call what was made is counted to the cell -/
theorem list_drop_sum {α : Type} (f : α → Nat) (L1 L2 : List α) (a : Nat) (ha : a ≤ L1.length) (hl : L1.length ≤ L2.length) (h : ∀ i, i < L1.length → (L2[i]?).map f = (L1[i]?).map f) : ((L2.drop a).map f).sum = ((L1.drop a).map f).sum + ((L2.drop L1.length).map f).sum := by
  have e1 : L2.map f = L1.map f ++ (L2.drop L1.length).map f := by
    apply List.ext_getElem?
    intro i
    by_cases hi : i < L1.length
    · rw [List.getElem?_append_left (by rw [List.length_map]; exact hi), List.getElem?_map, List.getElem?_map]
      exact h i hi
    · rw [List.getElem?_append_right (by rw [List.length_map]; omega), List.length_map, List.getElem?_map, List.getElem?_map, List.getElem?_drop]
      congr 2
      omega
  rw [List.map_drop, e1, List.drop_append_of_le_length (by rw [List.length_map]; exact ha), List.sum_append]
  simp only [List.map_drop]
theorem z_tight {p : Program} {l : Launch} {e : Env} {R : Room} {s : State} {mm : MethodId} {args : Array Value} {below : List Frame} {meth : Method} {c : Code} {T T' st t : State} {locs locs' L : List Loc} {ce se k n k1 n1 : Nat} (X : Stand p l e R s mm args below meth c T locs ce se) (X' : Stand p l e R s mm args below meth c T' locs' k n) (h0 : st.heap = T.heap) (e1 : T'.heap = t.heap) (hs : st.sameButNew ({ t with vm := st.vm } : State) L k1 n1) : Stand p l e R s mm args below meth c T' locs' (ce + k1) (se + n1) := by
  obtain ⟨-, a2, a3, -, a5, a6⟩ := hs
  have b2 : s.heap.size ≤ T.heap.size := X.same.2.1
  have b3 : T.heap.size ≤ s.heap.size + ce := X.same.2.2.1
  have b5 : ((T.heap.toList.drop s.heap.size).map (·.slots.size)).sum ≤ se := X.same.2.2.2.2.1
  have a2 : T.heap.size ≤ T'.heap.size := by rw [e1, ← h0]; exact a2
  have a3 : T'.heap.size ≤ T.heap.size + k1 := by rw [e1, ← h0]; exact a3
  have a5 : ((T'.heap.toList.drop T.heap.size).map (·.slots.size)).sum ≤ n1 := by rw [e1, ← h0]; exact a5
  have a6 : ∀ i, i < T.heap.toList.length → (T'.heap.toList[i]?).map (·.slots.size) = (T.heap.toList[i]?).map (·.slots.size) := by
    intro i hi
    have hi2 : i < T.heap.size := by simpa using hi
    obtain ⟨c1, g1, -, g3, -⟩ := a6 i (T.heap[i]) (by rw [h0]; exact Array.getElem?_eq_getElem hi2)
    have g4 : T'.heap[i]? = some c1 := by rw [e1]; exact g1
    rw [Array.getElem?_toList, Array.getElem?_toList, g4, Array.getElem?_eq_getElem hi2]
    exact congrArg some g3
  refine { X' with same := ⟨X'.same.1, X'.same.2.1, ?_, X'.same.2.2.2.1, ?_, X'.same.2.2.2.2.2⟩ }
  · show T'.heap.size ≤ s.heap.size + (ce + k1)
    omega
  · show ((T'.heap.toList.drop s.heap.size).map (·.slots.size)).sum ≤ se + n1
    rw [list_drop_sum (·.slots.size) T.heap.toList T'.heap.toList s.heap.size (by simpa using b2) (by simpa using a2) a6]
    have : ((T'.heap.toList.drop T.heap.toList.length).map (·.slots.size)).sum ≤ n1 := by simpa using a5
    omega
theorem sl1_len : ∀ (vs : List Zv), (lg_sl (vs.map cz)).length = (sl1 vs).length
  | [] => rfl
  | v :: r => by
    have ih := sl1_len r
    unfold lg_sl at ih ⊢
    rw [List.map_cons, List.flatMap_cons, List.length_append, ih, ctz_cz]
    show _ = (if ctz v = 2 then some v :: none :: sl1 r else some v :: sl1 r).length
    split <;> simp <;> omega
theorem sl1_get : ∀ (vs : List Zv) (i : Nat) (v : Zv), (sl1 vs)[i]? = some (some v) → (lg_sl (vs.map cz))[i]? = some (.val (cz v)) ∧ v ∈ vs
  | [], i, v, h => by simp [sl1] at h
  | w :: r, i, v, h => by
    have ih := sl1_get r
    unfold lg_sl at ih ⊢
    rw [List.map_cons, List.flatMap_cons, ctz_cz]
    unfold sl1 at h
    split at h
    · next e =>
      rw [if_pos e]
      match i, h with
      | 0, h => simp at h; subst h; exact ⟨rfl, List.mem_cons_self⟩
      | 1, h => simp at h
      | i + 2, h =>
        obtain ⟨a, b⟩ := ih i v (by simpa using h)
        exact ⟨by simpa using a, List.mem_cons_of_mem _ b⟩
    · next e =>
      rw [if_neg e]
      match i, h with
      | 0, h => simp at h; subst h; exact ⟨rfl, List.mem_cons_self⟩
      | i + 1, h =>
        obtain ⟨a, b⟩ := ih i v (by simpa using h)
        exact ⟨by simpa using a, List.mem_cons_of_mem _ b⟩
theorem lh_ent {vs : List Zv} {n : Nat} (hn : (sl1 vs).length ≤ n) (ho : ∀ v ∈ vs, okz v) : lh ((lg_sl (vs.map cz) ++ List.replicate (n - (lg_sl (vs.map cz)).length) Slot.unset).toArray) n (ent n vs) := by
  have h := lv_entry (vs.map cz) (n := n) (by rw [sl1_len]; exact hn)
  refine ⟨h.1, by unfold ent; simp; omega, h.2.1, fun i v hi => ?_⟩
  unfold ent at hi
  by_cases z : i < (sl1 vs).length
  · rw [List.getElem?_append_left z] at hi
    obtain ⟨a, b⟩ := sl1_get vs i v hi
    refine ⟨?_, ho v b⟩
    rw [List.getElem?_toArray, List.getElem?_append_left (by rw [sl1_len]; exact z)]
    exact a
  · rw [List.getElem?_append_right (by omega), List.getElem?_replicate] at hi
    split at hi <;> cases hi
section SD5
variable {G : GwT} {Md : Nat → MdT} {D : va_G} {A : Nat → Prop} {l : Launch}
def PreZ (G : GwT) (D : va_G) (A : Nat → Prop) (h : Zh) : State → Prop := fun U => RH D A h U U.heap ∧ SC A h U ∧ GL G A U ∧ ∀ q, U.heap.size ≤ q → A q
def Qc9 (D : va_G) (A : Nat → Prop) (Q : Zp) (c0 s0 : Nat) : Array Value → State → Outcome → State → Prop := fun _ st o t => EndR D A Q c0 s0 st o t
def Xc9 (D : va_G) (A : Nat → Prop) (Q : Zp) (c0 s0 : Nat) : String → State → State → Prop := fun E st t => ∃ e, E = xcl e ∧ EndX D A Q c0 s0 e st t
theorem end_mq {Q : Zp} {s : State} {args : Array Value} {below : List Frame} {c0 s0 : Nat} : ∀ t, EndZ D A Q c0 s0 below s t → vx_MQ below (Qc9 D A Q c0 s0) (Xc9 D A Q c0 s0) args s (MXC - c0) (MXS - s0) A t := by
  rintro t ⟨o, c1, c2, hr | ⟨q, e, cell, rfl, hx, hq, hv, hcl, hW⟩⟩
  · obtain ⟨v, g, L, d1, d2, d3, d4, d5, d6, d7, d8, ⟨f1, f2, f3⟩, d9⟩ := id hr
    have hok := d4.1.2.2.2
    exact ⟨o, c1, c2, Or.inl ⟨hr, L, ⟨f1, f2, f3.mono (by omega) (by omega)⟩, d9⟩⟩
  · obtain ⟨g, L, d1, d4, d5, d6, d7, d8, f3, d9⟩ := id hx
    have hok := d4.1.2.2.2
    exact ⟨_, c1, c2, Or.inr ⟨q, rfl, xcl e, cell, L, ⟨e, rfl, hx⟩, hq, hv, hcl, hW, f3.mono (by omega) (by omega), d9⟩⟩
/-- a method without handlers -/
theorem met_of {m2 : Nat} {w' : List Cond} {vs : List Zv} {h : Zh} {Q : Zp} (hws : mWs (Md m2) = Cond.code (mNam (Md m2)) (mCod (Md m2)) (mMax (Md m2)) (mRet (Md m2)) :: w') (hhh : mHH (Md m2) = []) (hpl : plainName (mNam (Md m2)).cls = true) (hown : mOwn (Md m2) = (mNam (Md m2)).cls) (htr : l.stackTraces = false)
    (hn : (sl1 vs).length ≤ mMax (Md m2)) (ho : ∀ v ∈ vs, okz v) (k : XS G Md D A l m2 0 (ent (mMax (Md m2)) vs) [] h Q) :
    vx_Met l (mNam (Md m2)) (mWs (Md m2)) (mRm (Md m2) (gC h) (gS h)) (va_Pc (vs.map cz) (PreZ G D A h)) (Qc9 D A Q (gC h) (gS h)) (Xc9 D A Q (gC h) (gS h)) (MXC - gC h) (MXS - gS h) A := by
  refine vx_ofW (cc := mCod (Md m2)) (maxL := mMax (Md m2)) (ret := mRet (Md m2)) hpl hws ?_
  intro p e s m args below meth c s₁ B hml ht hv
  obtain ⟨rfl, hR, hC, hG, hA⟩ := hv
  rw [lg_entry_eq]
  have hts : ∀ w ∈ mWs (Md m2), w.before (vs.map cz).toArray s = true := atoms_spec (ws := mWs (Md m2)) B.pre
  have het : c.exceptionTable.toList = tableOf (mHH (Md m2)) := by
    rw [hhh]
    cases q : c.exceptionTable.toList with
    | nil => rfl
    | cons x r => exact (ht x (by rw [q]; exact List.mem_cons_self)).elim
  exact W_mo end_mq (k p e _ s m _ below meth c s.heap [] _ (gC h) (gS h) 0 0 ⟨⟨B.exec, B.bytes, hml, by rw [hown]; exact findClass_of_methodNamed B.named, hts⟩, B.returns, B.notSynchronized, (name_of_methodNamed B.named B.method).1, het, rfl, htr, hA, hG⟩ hR hC va_S.rf (lh_ent hn ho) (fun v hv => by cases hv) rfl rfl)
/-- a method with handlers -/
theorem met_ofH {m2 : Nat} {w' : List Cond} {vs : List Zv} {h : Zh} {Q : Zp} (hws : mWs (Md m2) = Cond.codeWith (mNam (Md m2)) (mCod (Md m2)) (mMax (Md m2)) (mRet (Md m2)) (mHH (Md m2)) :: w') (hpl : plainName (mNam (Md m2)).cls = true) (hown : mOwn (Md m2) = (mNam (Md m2)).cls) (htr : l.stackTraces = false)
    (hn : (sl1 vs).length ≤ mMax (Md m2)) (ho : ∀ v ∈ vs, okz v) (k : XS G Md D A l m2 0 (ent (mMax (Md m2)) vs) [] h Q) :
    vx_Met l (mNam (Md m2)) (mWs (Md m2)) (mRm (Md m2) (gC h) (gS h)) (va_Pc (vs.map cz) (PreZ G D A h)) (Qc9 D A Q (gC h) (gS h)) (Xc9 D A Q (gC h) (gS h)) (MXC - gC h) (MXS - gS h) A := by
  refine vx_ofWH (cc := mCod (Md m2)) (maxL := mMax (Md m2)) (ret := mRet (Md m2)) (hh := mHH (Md m2)) hpl hws ?_
  intro p e s m args below meth c s₁ B hml hv
  obtain ⟨rfl, hR, hC, hG, hA⟩ := hv
  rw [lg_entry_eq]
  have hts : ∀ w ∈ mWs (Md m2), w.before (vs.map cz).toArray s = true := atoms_spec (ws := mWs (Md m2)) B.pre
  have het : c.exceptionTable.toList = tableOf (mHH (Md m2)) := vx_table (x := mNam (Md m2)) B (hts _ (by rw [hws]; exact List.mem_cons_self))
  exact W_mo end_mq (k p e _ s m _ below meth c s.heap [] _ (gC h) (gS h) 0 0 ⟨⟨B.exec, B.bytes, hml, by rw [hown]; exact findClass_of_methodNamed B.named, hts⟩, B.returns, B.notSynchronized, (name_of_methodNamed B.named B.method).1, het, rfl, htr, hA, hG⟩ hR hC va_S.rf (lh_ent hn ho) (fun v hv => by cases hv) rfl rfl)
theorem pre_blind {vs : List Zv} {h : Zh} : FrameBlind (va_Pc (vs.map cz) (PreZ G D A h)) := by
  rintro a U g mk ⟨e, h1, h2, h3, h4⟩
  have hW : U.WarmedH (U.calling g mk a).vm := State.WarmedH.refl U
  exact ⟨e, h1.moved hW.alike, SC.fwd hW.alike (Nat.le_refl _) (fun _ _ _ => rfl) h2, h3.go hW (fun _ _ _ => rfl), h4⟩
/-- what is known of a place's handlers -/
def CatchOK (G : GwT) (M : MdT) (pc : Nat) (hs : List (Nat × Nat)) : Prop := (hs = [] → mHH M = []) ∧ ∀ e t, hs.lookup e = some t → ∃ (pre : List ExceptionTableEntry) (x : ExceptionTableEntry) (suf : List ExceptionTableEntry) (name : String), tableOf (mHH M) = pre ++ x :: suf ∧
  (∀ z ∈ pre, covers z pc = false ∨ (z.catchType ≠ 0 ∧ ∃ nm, Cond.classLink (mOwn M) z.catchType nm ∈ mWs M ∧ (xcl e, nm) ∈ G.2.1)) ∧ covers x pc = true ∧ x.catchType ≠ 0 ∧ Cond.classLink (mOwn M) x.catchType name ∈ mWs M ∧ (xcl e, name) ∈ G.2.2.1 ∧ x.handlerPc = t
theorem catch_nil {G : GwT} {M : MdT} {pc : Nat} (h : mHH M = []) : CatchOK G M pc [] := ⟨fun _ => h, fun e t q => by cases q⟩
theorem run_fin {p : Program} {e : Env} {R : Room} {s : State} {mm : MethodId} {args : Array Value} {below : List Frame} {meth : Method} {c : Code} {H : Heap} {locs : List Loc} {lsC : Array Slot} {c0 s0 ce se m pc : Nat} {ls : Zl} {r : List Zv} {h : Zh} {Q : Zp} {hs : List (Nat × Nat)} {st0 : List Value} {aa2 : Array Value}
    (C0 : Cx G A l (Md m) c0 s0 p R s mm args meth c) (hR : RH D A h s H) (hC : SC A h s) (hS : va_S A s.heap H locs) (hl : lh lsC (mMax (Md m)) ls) (ho : ∀ v ∈ r, okz v) (hcu : gC h = c0 + ce) (hsu : gS h = s0 + se) (hcat : CatchOK G (Md m) pc hs)
    (hrun : vx_Run p l e R s mm args below meth c H locs ce se (MXC - gC h) (MXS - gS h) (F0 mm pc lsC st0) (r.map cz) (Qc9 D A (kont (XS G Md D A l) m pc ls r hs Q) (gC h) (gS h) aa2) (Xc9 D A (kont (XS G Md D A l) m pc ls r hs Q) (gC h) (gS h)) A) :
    W p l e R s mm args below meth c H locs ce se (EndZ D A Q c0 s0 below s) (F0 mm pc lsC st0) := by
  obtain ⟨⟨hx, hb, hml, hown, hts⟩, hr, hlk, hnm, het, hRm, htr, hA, hG⟩ := id C0
  intro T hT X
  rcases hrun T hT X with ⟨v, st₀, t, T', L, h0, X', hL, e1, e2, hq, stp⟩ | ⟨q, st₀, t, T', L, E, cell, h0, X', hL, e1, e2, ⟨ec, rfl, hq⟩, hce, hcv, hcl, stp⟩
  · obtain ⟨v', g, L2, d1, d2, d3, d4, d5, d6, d7, d8, ⟨f1, f2, f3⟩, d9⟩ := hq
    cases d1
    have hal : s.vm.Alike t.vm := by rw [← e2]; exact X'.warmed.alike
    have hkp : ∀ a : Nat, a < s.heap.size → ¬ A a → t.heap[a]? = s.heap[a]? := fun a g1 g2 => by
      rw [d6.2 a (by rw [h0]; exact Nat.lt_of_lt_of_le g1 hS.1) g2, h0]
      exact hS.2.1 a g1 g2
    obtain ⟨-, -, k3⟩ := vx_keep (A0 := A) (A1 := A) (free := A) (L := L) h0 e1 hS (fun _ _ z => z) (fun _ z => z) hL d6
    have X2 := z_tight X X' (by rw [h0, hT]) e1 f3
    have hQ : XS G Md D A l m (pc + 3) ls (v'.toList ++ r) g Q := d3
    obtain ⟨t2, a1, b1⟩ := hQ p e R s mm args below meth c T'.heap (locs ++ L) lsC c0 s0 (ce + (gC g - gC h)) (se + (gS g - gS h)) C0 (by rw [e1]; exact d4.moved hal.symm) (SC.back hal hA hkp d5) k3 hl (fun x hx9 => by
      rcases List.mem_append.mp hx9 with z | z
      · exact d2 x (by cases v' with | none => cases z | some y => rw [List.mem_singleton.mp z])
      · exact ho x z) (by omega) (by omega) T' rfl X2
    refine ⟨t2, stp t2 ?_, b1⟩
    have e9 : (v'.map cz).toList ++ r.map cz = (v'.toList ++ r).map cz := by cases v' <;> rfl
    show Steps p.tables e below (T'.setTop (F0 mm (pc + 3) lsC ((v'.map cz).toList ++ r.map cz))) t2
    rw [e9]
    exact a1
  · obtain ⟨g, L2, d1, d4, d5, d6, d7, d8, f3, d9⟩ := hq
    have hal : s.vm.Alike t.vm := by rw [← e2]; exact X'.warmed.alike
    have hkp : ∀ a : Nat, a < s.heap.size → ¬ A a → t.heap[a]? = s.heap[a]? := fun a g1 g2 => by
      rw [d6.2 a (by rw [h0]; exact Nat.lt_of_lt_of_le g1 hS.1) g2, h0]
      exact hS.2.1 a g1 g2
    obtain ⟨-, -, k3⟩ := vx_keep (A0 := A) (A1 := A) (free := A) (L := L) h0 e1 hS (fun _ _ z => z) (fun _ z => z) hL d6
    have X2 := z_tight X X' (by rw [h0, hT]) e1 f3
    have hRg : RH D A g s T'.heap := by rw [e1]; exact d4.moved hal.symm
    have hCg : SC A g s := SC.back hal hA hkp d5
    have hceT : T'.heap[q]? = some cell := by rw [e1]; exact hce
    have fin : vx_W p l e R s mm args below meth c T'.heap (locs ++ L) (ce + (gC g - gC h)) (se + (gS g - gS h)) (EndZ D A Q c0 s0 below s) (F0 mm pc lsC (r.map cz)) q := by
      cases hs with
      | nil =>
        have hQ : Q (.inr ec) g := d1
        have hout : ∀ x ∈ c.exceptionTable.toList, covers x pc = false := fun x hx9 => by
          rw [het, hcat.1 rfl] at hx9
          cases hx9
        have k9 := vx_out (p := p) (l := l) (e := e) (R := R) (args := args) (below := below) (meth := meth) (locs := locs ++ L) (ls := lsC) (m := mm) (rest := r.map cz) (Qc := fun _ _ _ _ => False) (XC := fun E s9 t9 => E = xcl ec ∧ s9.vm.Alike t9.vm ∧ t9.heap = T'.heap) (free := A) hout hlk hceT hcv hcl (fun t9 z1 z2 => ⟨rfl, z2, z1⟩) k3.2.2 (Nat.le_refl (ce + (gC g - gC h))) (Nat.le_refl (se + (gS g - gS h)))
        intro T2 hT2 Y
        obtain ⟨t2, a1, o, b1, b2, ⟨hf, -⟩ | ⟨q2, rfl, E2, cell2, L3, ⟨rfl, y1, y2⟩, y3, y4, y5, y6, y7, y8⟩⟩ := k9 T2 hT2 Y
        · exact hf.elim
        · have hk2 : ∀ a : Nat, a < s.heap.size → ¬ A a → t2.heap[a]? = s.heap[a]? := fun a g1 g2 => by rw [y2]; exact k3.2.1 a g1 g2
          refine ⟨t2, a1, _, b1, b2, Or.inr ⟨q2, ec, cell2, rfl, ⟨g, L3, hQ, by rw [y2]; exact hRg.moved y1, SC.fwd y1 (by rw [y2]; exact k3.1) hk2 hCg, ⟨by rw [y2]; exact k3.1, hk2⟩, by omega, by omega, ?_, y8⟩, y3, y4, y5, y6⟩⟩
          rw [show gC g - c0 = ce + (gC g - gC h) by omega, show gS g - s0 = se + (gS g - gS h) by omega]
          exact y7
      | cons z9 hs9 =>
        have d1 : (match (z9 :: hs9).lookup ec with | some t => ∀ q, XS G Md D A l m t ls [zr (some q)] g Q | none => False) := d1
        cases hlook : (z9 :: hs9).lookup ec with
        | none => rw [hlook] at d1; exact d1.elim
        | some tgt =>
          rw [hlook] at d1
          obtain ⟨pre, x, suf, name, g1, g2, g3, g4, g5, g6, g7⟩ := hcat.2 ec tgt hlook
          have hQ := d1 q p e R s mm args below meth c T'.heap (locs ++ L) lsC c0 s0 (ce + (gC g - gC h)) (se + (gS g - gS h)) C0 hRg hCg k3 hl (fun x hx9 => by rw [List.mem_singleton.mp hx9]; trivial) (by omega) (by omega)
          rw [← g7] at hQ
          exact vx_catch hown pre x suf (by rw [het]; exact g1) (fun z hz => (g2 z hz).imp id (fun ⟨y1, nm, y2, y3⟩ => ⟨y1, nm, hts _ y2, hG.2.2.2.1 _ y3⟩)) g3 g4 (hts _ g5) (va_tabs rfl rfl (hG.2.2.2.2.1.1 _ g6)) hceT hcv hcl hQ
    obtain ⟨t2, a1, b1⟩ := fin T' rfl X2
    exact ⟨t2, stp.trans a1, b1⟩
theorem as_rev {st : List Zv} {n : Nat} : st.map cz = (((st.take n).reverse).map cz).reverse ++ (st.drop n).map cz := by
  rw [← List.map_reverse, List.reverse_reverse, ← List.map_append, List.take_append_drop]
theorem pre_at {h : Zh} {s : State} {H : Heap} {locs : List Loc} {vs : List Zv} (hR : RH D A h s H) (hC : SC A h s) (hS : va_S A s.heap H locs) (hA : ∀ q, s.heap.size ≤ q → A q) (hG : GL G A s) : ∀ U : State, U.heap = H → s.WarmedH U.vm → va_Pc (vs.map cz) (PreZ G D A h) (vs.map cz).toArray U := by
  intro U hU hW
  have hk : ∀ a : Nat, a < s.heap.size → ¬ A a → U.heap[a]? = s.heap[a]? := fun a h1 h2 => by rw [hU]; exact hS.2.1 a h1 h2
  have hz : s.heap.size ≤ U.heap.size := by rw [hU]; exact hS.1
  exact ⟨rfl, by rw [hU]; exact hR.moved hW.alike, SC.fwd hW.alike hz hk hC, hG.go hW hk, fun q hq => hA q (Nat.le_trans hz hq)⟩
/-- a static call -/
theorem sd_callS (m pc m2 n mx ix : Nat) (hs : List (Nat × Nat)) {w' : List Cond} (hG0 : GoodIn (mWs (Md m)) (va_wsS (mOwn (Md m)) ix (mNam (Md m2)) (mWs (Md m2)))) (hws : mWs (Md m2) = Cond.code (mNam (Md m2)) (mCod (Md m2)) (mMax (Md m2)) (mRet (Md m2)) :: w') (hhh : mHH (Md m2) = []) (hpl : plainName (mNam (Md m2)).cls = true) (hown2 : mOwn (Md m2) = (mNam (Md m2)).cls) (hmx : mMax (Md m2) = mx)
    (hd : (mNam (Md m2)).cls ≠ "java/lang/invoke/MethodHandle" ∧ (mNam (Md m2)).cls ≠ "java/lang/invoke/VarHandle" ∧ (parseMethodDescriptor (mNam (Md m2)).desc).map (fun d => d.parameters.length) = some n) (hfr : mFr (Md m2) + 1 ≤ mFr (Md m) ∧ 8 + (mMax (Md m2) + 11) + mLo (Md m2) ≤ mLo (Md m)) (hcat : CatchOK G (Md m) pc hs)
    (d : decode (mCod (Md m)) pc = .ok (.invokestatic ix, 3)) : SM G Md D A l m pc (oCallS m2 n mx hs) := by
  refine ⟨mo_oCallS m2 n mx hs, fun ls st h Q k pp ee RR ss mm aa bb me cc0 HH lc lsC c0 s0 ce se C0 hR hC hS hl ho hcu hsu => ?_⟩
  obtain ⟨⟨hx, hb, hml, hown, hts⟩, hr, hlk, hnm, het, hRm, htr, hA, hG⟩ := id C0
  subst hmx
  have hok := hR.1.2.2.2
  obtain ⟨k1, k2, k0, k⟩ := k
  have hM := met_of hws hhh hpl hown2 htr k0 (fun v hv => ho v (List.mem_of_mem_take (List.mem_reverse.mp hv))) k
  refine run_fin C0 hR hC hS hl (fun v hv => ho v (List.mem_of_mem_drop hv)) hcu hsu hcat (vx_runS (As := ((st.take n).reverse).map cz) ⟨hx, hb, hml, hown, hts⟩ hM (va_cwS n hts hG0 hws rfl rfl hd ⟨by rw [hRm]; exact hfr.1, by rw [hRm]; exact hfr.2⟩) ⟨pre_blind, pre_at hR hC hS hA hG⟩ rfl (by rw [List.length_map, List.length_reverse, List.length_take]; omega) hl.1 as_rev (lv_room (by rw [sum_cz]; exact k1)) d ⟨by rw [hRm]; show ce + (MXC - gC h) ≤ MXC - c0; omega, by rw [hRm]; show se + (MXS - gS h) ≤ MXS - s0; omega⟩)
/-- a static call of a nest mate -/
theorem sd_callSN (m pc m2 n mx ix : Nat) (hs : List (Nat × Nat)) {w' : List Cond} (hG0 : GoodIn (mWs (Md m)) (mWs (Md m2))) (host : String) (wl : (mOwn (Md m), ix, mNam (Md m2), host) ∈ G.2.2.2.2.1) (wi : Cond.initialized (mNam (Md m2)).cls ∈ mWs (Md m)) (wst : Cond.static (mNam (Md m2)) ∈ mWs (Md m)) (hws : mWs (Md m2) = Cond.code (mNam (Md m2)) (mCod (Md m2)) (mMax (Md m2)) (mRet (Md m2)) :: w') (hhh : mHH (Md m2) = []) (hpl : plainName (mNam (Md m2)).cls = true) (hown2 : mOwn (Md m2) = (mNam (Md m2)).cls) (hmx : mMax (Md m2) = mx)
    (hd : (mNam (Md m2)).cls ≠ "java/lang/invoke/MethodHandle" ∧ (mNam (Md m2)).cls ≠ "java/lang/invoke/VarHandle" ∧ (parseMethodDescriptor (mNam (Md m2)).desc).map (fun d => d.parameters.length) = some n) (hfr : mFr (Md m2) + 1 ≤ mFr (Md m) ∧ 8 + (mMax (Md m2) + 11) + mLo (Md m2) ≤ mLo (Md m)) (hcat : CatchOK G (Md m) pc hs)
    (d : decode (mCod (Md m)) pc = .ok (.invokestatic ix, 3)) : SM G Md D A l m pc (oCallS m2 n mx hs) := by
  refine ⟨mo_oCallS m2 n mx hs, fun ls st h Q k pp ee RR ss mm aa bb me cc0 HH lc lsC c0 s0 ce se C0 hR hC hS hl ho hcu hsu => ?_⟩
  obtain ⟨⟨hx, hb, hml, hown, hts⟩, hr, hlk, hnm, het, hRm, htr, hA, hG⟩ := id C0
  subst hmx
  have hok := hR.1.2.2.2
  obtain ⟨k1, k2, k0, k⟩ := k
  have hM := met_of hws hhh hpl hown2 htr k0 (fun v hv => ho v (List.mem_of_mem_take (List.mem_reverse.mp hv))) k
  refine run_fin C0 hR hC hS hl (fun v hv => ho v (List.mem_of_mem_drop hv)) hcu hsu hcat (vx_runSN (As := ((st.take n).reverse).map cz) ⟨hx, hb, hml, hown, hts⟩ hM ⟨va_cnB n hts hG0 hws rfl rfl (hG.2.2.2.2.2.2.1 _ wl) (hts _ wi) hd ⟨by rw [hRm]; exact hfr.1, by rw [hRm]; exact hfr.2⟩, hts _ wst, trivial⟩ ⟨pre_blind, pre_at hR hC hS hA hG⟩ rfl (by rw [List.length_map, List.length_reverse, List.length_take]; omega) hl.1 as_rev (lv_room (by rw [sum_cz]; exact k1)) d ⟨by rw [hRm]; show ce + (MXC - gC h) ≤ MXC - c0; omega, by rw [hRm]; show se + (MXS - gS h) ≤ MXS - s0; omega⟩)
/-- a static call of a method with handlers -/
theorem sd_callSW (m pc m2 n mx ix : Nat) (hs : List (Nat × Nat)) {w' : List Cond} (hG0 : GoodIn (mWs (Md m)) (va_wsS (mOwn (Md m)) ix (mNam (Md m2)) (mWs (Md m2)))) (hws : mWs (Md m2) = Cond.codeWith (mNam (Md m2)) (mCod (Md m2)) (mMax (Md m2)) (mRet (Md m2)) (mHH (Md m2)) :: w') (hpl : plainName (mNam (Md m2)).cls = true) (hown2 : mOwn (Md m2) = (mNam (Md m2)).cls) (hmx : mMax (Md m2) = mx)
    (hd : (mNam (Md m2)).cls ≠ "java/lang/invoke/MethodHandle" ∧ (mNam (Md m2)).cls ≠ "java/lang/invoke/VarHandle" ∧ (parseMethodDescriptor (mNam (Md m2)).desc).map (fun d => d.parameters.length) = some n) (hfr : mFr (Md m2) + 1 ≤ mFr (Md m) ∧ 8 + (mMax (Md m2) + 11) + mLo (Md m2) ≤ mLo (Md m)) (hcat : CatchOK G (Md m) pc hs)
    (d : decode (mCod (Md m)) pc = .ok (.invokestatic ix, 3)) : SM G Md D A l m pc (oCallS m2 n mx hs) := by
  refine ⟨mo_oCallS m2 n mx hs, fun ls st h Q k pp ee RR ss mm aa bb me cc0 HH lc lsC c0 s0 ce se C0 hR hC hS hl ho hcu hsu => ?_⟩
  obtain ⟨⟨hx, hb, hml, hown, hts⟩, hr, hlk, hnm, het, hRm, htr, hA, hG⟩ := id C0
  subst hmx
  have hok := hR.1.2.2.2
  obtain ⟨k1, k2, k0, k⟩ := k
  have hM := met_ofH hws hpl hown2 htr k0 (fun v hv => ho v (List.mem_of_mem_take (List.mem_reverse.mp hv))) k
  refine run_fin C0 hR hC hS hl (fun v hv => ho v (List.mem_of_mem_drop hv)) hcu hsu hcat (vx_runSX (As := ((st.take n).reverse).map cz) ⟨hx, hb, hml, hown, hts⟩ hM (vx_cwSW n hts hG0 hws rfl rfl hd ⟨by rw [hRm]; exact hfr.1, by rw [hRm]; exact hfr.2⟩) ⟨pre_blind, pre_at hR hC hS hA hG⟩ rfl (by rw [List.length_map, List.length_reverse, List.length_take]; omega) hl.1 as_rev (lv_room (by rw [sum_cz]; exact k1)) d ⟨by rw [hRm]; show ce + (MXC - gC h) ≤ MXC - c0; omega, by rw [hRm]; show se + (MXS - gS h) ≤ MXS - s0; omega⟩)
/-- a call of a method of its receiver -/
theorem sd_callV (m pc m2 n mx ix c : Nat) (hs : List (Nat × Nat)) {w' : List Cond} (hG0 : GoodIn (mWs (Md m)) (wsV (mOwn (Md m)) ix (mNam (Md m2)).cls (mNam (Md m2)) (mWs (Md m2)))) (hws : mWs (Md m2) = Cond.code (mNam (Md m2)) (mCod (Md m2)) (mMax (Md m2)) (mRet (Md m2)) :: w') (hhh : mHH (Md m2) = []) (hpl : plainName (mNam (Md m2)).cls = true) (hown2 : mOwn (Md m2) = (mNam (Md m2)).cls) (hmx : mMax (Md m2) = mx)
    (hd : (mNam (Md m2)).cls ≠ "java/lang/invoke/MethodHandle" ∧ (mNam (Md m2)).cls ≠ "java/lang/invoke/VarHandle" ∧ (parseMethodDescriptor (mNam (Md m2)).desc).map (fun d => d.parameters.length) = some n) (hfr : mFr (Md m2) + 1 ≤ mFr (Md m) ∧ 8 + (mMax (Md m2) + 11) + mLo (Md m2) ≤ mLo (Md m)) (hcat : CatchOK G (Md m) pc hs) (C : String) (hCn : (mNam (Md m2)).cls = C) (T : u_T) (N : Nat) (hcl : vwCl[c - 1]? = some (C, T, N)) (hc : 1 ≤ c ∧ c ≤ 7)
    (d : decode (mCod (Md m)) pc = .ok (.invokevirtual ix, 3)) : SM G Md D A l m pc (oCallV m2 n mx c hs) := by
  refine ⟨mo_oCallV m2 n mx c hs, fun ls st h Q k pp ee RR ss mm aa bb me cc0 HH lc lsC c0 s0 ce se C0 hR hC hS hl ho hcu hsu => ?_⟩
  obtain ⟨⟨hx, hb, hml, hown, hts⟩, hr, hlk, hnm, het, hRm, htr, hA, hG⟩ := id C0
  subst hmx
  have hok := hR.1.2.2.2
  unfold oCallV at k
  split at k
  · next r t edr =>
    obtain ⟨k1, ⟨a, rfl, ha⟩, k2, k0, k⟩ := k
    have hor : ∀ v ∈ t, okz v := fun v hv => ho v (List.mem_of_mem_drop (by rw [edr]; exact List.mem_cons_of_mem _ hv))
    have hM := met_of hws hhh hpl hown2 htr k0 (List.forall_mem_cons.mpr ⟨trivial, fun v hv => ho v (List.mem_of_mem_take (List.mem_reverse.mp hv))⟩) k
    obtain ⟨-, ws, tys, hP, hD, hKK, hI⟩ := id hR
    obtain ⟨q0, e, he, hE⟩ := hI a (by omega) (by omega)
    have he2 := isE_obj hE ha hc.2
    subst he2
    subst hCn
    refine run_fin C0 hR hC hS hl hor hcu hsu hcat (vx_runV (As := ((st.take n).reverse).map cz) (b := a) ⟨hx, hb, hml, hown, hts⟩ hM (cwV n hts hG0 hws rfl rfl ⟨rfl, hd⟩ ⟨by rw [hRm]; exact hfr.1, by rw [hRm]; exact hfr.2⟩) ⟨pre_blind, va_recv hKK hP hcl he, pre_at (vs := zr (some a) :: (st.take n).reverse) hR hC hS hA hG⟩ rfl (by rw [List.length_map, List.length_reverse, List.length_take]; omega) hl.1 (by rw [show (F0 mm pc lsC (st.map cz)).stack = st.map cz from rfl, as_rev (n := n), edr]; rfl) (lv_room (by rw [sum_cz]; exact k1)) d ⟨by rw [hRm]; show ce + (MXC - gC h) ≤ MXC - c0; omega, by rw [hRm]; show se + (MXS - gS h) ≤ MXS - s0; omega⟩)
  · exact k.elim
/-- a constructor -/
theorem sd_callI (m pc m2 n mx ix c : Nat) (hs : List (Nat × Nat)) {w' : List Cond} (hG0 : GoodIn (mWs (Md m)) (mWs (Md m2))) (hret : mRet (Md m2) = none) (wi : Cond.initialized (mNam (Md m2)).cls ∈ mWs (Md m)) (wl : Cond.methodLink (mOwn (Md m)) ix (mNam (Md m2)) ∈ mWs (Md m)) (win : Cond.instanceMethod (mNam (Md m2)) ∈ mWs (Md m)) (hini : (mNam (Md m2)).name = "<init>") (hws : mWs (Md m2) = Cond.code (mNam (Md m2)) (mCod (Md m2)) (mMax (Md m2)) (mRet (Md m2)) :: w') (hhh : mHH (Md m2) = []) (hpl : plainName (mNam (Md m2)).cls = true) (hown2 : mOwn (Md m2) = (mNam (Md m2)).cls) (hmx : mMax (Md m2) = mx)
    (hd : (mNam (Md m2)).cls ≠ "java/lang/invoke/MethodHandle" ∧ (mNam (Md m2)).cls ≠ "java/lang/invoke/VarHandle" ∧ (parseMethodDescriptor (mNam (Md m2)).desc).map (fun d => d.parameters.length) = some n) (hfr : mFr (Md m2) + 1 ≤ mFr (Md m) ∧ 8 + (mMax (Md m2) + 11) + mLo (Md m2) ≤ mLo (Md m)) (hcat : CatchOK G (Md m) pc hs) (C : String) (T : u_T) (N : Nat) (hcl : vwCl[c - 1]? = some (C, T, N)) (hc : 1 ≤ c ∧ c ≤ 7)
    (d : decode (mCod (Md m)) pc = .ok (.invokespecial ix, 3)) : SM G Md D A l m pc (oCallV m2 n mx c hs) := by
  refine ⟨mo_oCallV m2 n mx c hs, fun ls st h Q k pp ee RR ss mm aa bb me cc0 HH lc lsC c0 s0 ce se C0 hR hC hS hl ho hcu hsu => ?_⟩
  obtain ⟨⟨hx, hb, hml, hown, hts⟩, hr, hlk, hnm, het, hRm, htr, hA, hG⟩ := id C0
  subst hmx
  have hok := hR.1.2.2.2
  unfold oCallV at k
  split at k
  · next r t edr =>
    obtain ⟨k1, ⟨a, rfl, ha⟩, k2, k0, k⟩ := k
    have hor : ∀ v ∈ t, okz v := fun v hv => ho v (List.mem_of_mem_drop (by rw [edr]; exact List.mem_cons_of_mem _ hv))
    have hM := met_of hws hhh hpl hown2 htr k0 (List.forall_mem_cons.mpr ⟨trivial, fun v hv => ho v (List.mem_of_mem_take (List.mem_reverse.mp hv))⟩) k
    obtain ⟨-, ws, tys, hP, hD, hKK, hI⟩ := id hR
    obtain ⟨q0, e, he, hE⟩ := hI a (by omega) (by omega)
    have he2 := isE_obj hE ha hc.2
    subst he2
    refine run_fin C0 hR hC hS hl hor hcu hsu hcat (vx_runI (As := ((st.take n).reverse).map cz) (b := a) ⟨hx, hb, hml, hown, hts⟩ hM (cwI n hts hG0 (by rw [hws, hret]) rfl rfl (hts _ wi) (hts _ wl) (hts _ win) hini hd ⟨by rw [hRm]; exact hfr.1, by rw [hRm]; exact hfr.2⟩) ⟨pre_blind, pre_at (vs := zr (some a) :: (st.take n).reverse) hR hC hS hA hG⟩ rfl (by rw [List.length_map, List.length_reverse, List.length_take]; omega) hl.1 (by rw [show (F0 mm pc lsC (st.map cz)).stack = st.map cz from rfl, as_rev (n := n), edr]; rfl) (lv_room (by rw [sum_cz]; exact k1)) d ⟨by rw [hRm]; show ce + (MXC - gC h) ≤ MXC - c0; omega, by rw [hRm]; show se + (MXS - gS h) ≤ MXS - s0; omega⟩)
  · exact k.elim
end SD5
end
section
/-! THE PROGRAM's words, out of the tables, by their places; all methods have the same list behind their own code -/
def zBig : List Cond := lw_tbl.filter goodWord
theorem zin (i : Nat) {w : Cond} (h : lw_tbl[i]? = some w) (g : goodWord w = true) : w ∈ zBig := List.mem_filter.mpr ⟨List.mem_of_getElem? h, g⟩
theorem zgood {w : Cond} (h : w ∈ zBig) : (w.onTables && w.keeps) = true ∨ ∃ ty, w = .arrayClass ty := good_of_word (List.mem_filter.mp h).2
theorem gdI {a b : Cond} {r1 r2 : List Cond} (h1 : r1 = a :: zBig) (h2 : r2 = b :: zBig) (hb : b ∈ zBig) : GoodIn r1 r2 := by
  subst h1; subst h2
  intro w hw
  rcases List.mem_cons.mp hw with rfl | hw
  · exact ⟨List.mem_cons_of_mem _ hb, zgood hb⟩
  · exact ⟨List.mem_cons_of_mem _ hw, zgood hw⟩
theorem gd1 {a w : Cond} {r1 : List Cond} (h1 : r1 = a :: zBig) (hw : w ∈ zBig) : w ∈ r1 ∧ ((w.onTables && w.keeps) = true ∨ ∃ ty, w = .arrayClass ty) := by
  subst h1
  exact ⟨List.mem_cons_of_mem _ hw, zgood hw⟩
theorem gdV {a b : Cond} {r1 r2 : List Cond} {own C : String} {ix : Nat} {y : MethodName} (h1 : r1 = a :: zBig) (h2 : r2 = b :: zBig) (w1 : Cond.methodLink own ix y ∈ zBig) (w2 : Cond.instanceMethod y ∈ zBig) (w3 : Cond.selects C y y ∈ zBig) (w4 : Cond.initialized C ∈ zBig) (hb : b ∈ zBig) : GoodIn r1 (wsV own ix C y r2) := by
  intro w hw
  unfold wsV at hw
  rcases List.mem_append.mp hw with hw | hw
  · simp only [List.mem_cons, List.not_mem_nil, or_false] at hw
    rcases hw with rfl | rfl | rfl | rfl
    · exact gd1 h1 w1
    · exact gd1 h1 w2
    · exact gd1 h1 w3
    · exact gd1 h1 w4
  · exact gdI h1 h2 hb w hw
theorem gdS {a b : Cond} {r1 r2 : List Cond} {own : String} {ix : Nat} {y : MethodName} (h1 : r1 = a :: zBig) (h2 : r2 = b :: zBig) (w1 : Cond.methodLink own ix y ∈ zBig) (w2 : Cond.static y ∈ zBig) (w4 : Cond.initialized y.cls ∈ zBig) (hb : b ∈ zBig) : GoodIn r1 (va_wsS own ix y r2) := by
  intro w hw
  unfold va_wsS at hw
  rcases List.mem_append.mp hw with hw | hw
  · simp only [List.mem_cons, List.not_mem_nil, or_false] at hw
    rcases hw with rfl | rfl | rfl
    · exact gd1 h1 w1
    · exact gd1 h1 w2
    · exact gd1 h1 w4
  · exact gdI h1 h2 hb w hw
theorem lookup_mem {e t : Nat} : ∀ (hs : List (Nat × Nat)), hs.lookup e = some t → (e, t) ∈ hs
  | [], h => by cases h
  | (a, b) :: r, h => by
    rw [List.lookup_cons] at h
    by_cases q : e = a
    · subst q
      simp at h
      subst h
      exact List.mem_cons_self
    · have q2 : (e == a) = false := by simp [q]
      rw [q2] at h
      exact List.mem_cons_of_mem _ (lookup_mem r h)
theorem catch_of {G : GwT} {M : MdT} {pc : Nat} {hs : List (Nat × Nat)} (h0 : hs = [] → mHH M = []) (h : ∀ q ∈ hs, ∃ (pre : List ExceptionTableEntry) (x : ExceptionTableEntry) (suf : List ExceptionTableEntry) (name : String), tableOf (mHH M) = pre ++ x :: suf ∧
  (∀ z ∈ pre, covers z pc = false ∨ (z.catchType ≠ 0 ∧ ∃ nm, Cond.classLink (mOwn M) z.catchType nm ∈ mWs M ∧ (xcl q.1, nm) ∈ G.2.1)) ∧ covers x pc = true ∧ x.catchType ≠ 0 ∧ Cond.classLink (mOwn M) x.catchType name ∈ mWs M ∧ (xcl q.1, name) ∈ G.2.2.1 ∧ x.handlerPc = q.2) : CatchOK G M pc hs := ⟨h0, fun e t q => h (e, t) (lookup_mem hs q)⟩
theorem zw0 : Cond.methodLink RX0 1 Lib.objectInit ∈ zBig := zin 516 (by decide +kernel) (by decide +kernel)
theorem zw1 : Cond.instanceMethod Lib.objectInit ∈ zBig := zin 70 (by decide +kernel) (by decide +kernel)
theorem zw2 : Cond.code Lib.objectInit ⟨#[0xb1]⟩ 1 none ∈ zBig := zin 71 (by decide +kernel) (by decide +kernel)
theorem zw3 : Cond.fieldLink RX0 7 "Marginalia$Anchor" "from" "I" ∈ zBig := zin 517 (by decide +kernel) (by decide +kernel)
theorem zw4 : Cond.fieldLink RX0 13 "Marginalia$Anchor" "to" "I" ∈ zBig := zin 521 (by decide +kernel) (by decide +kernel)
theorem zw5 : Cond.code yX0_isLost cX0_isLost 1 (some .boolean) ∈ zBig := zin 165 (by decide +kernel) (by decide +kernel)
theorem zw6 : Cond.methodLink RX0 16 yX0_isLost ∈ zBig := zin 763 (by decide +kernel) (by decide +kernel)
theorem zw7 : Cond.instanceMethod yX0_isLost ∈ zBig := zin 163 (by decide +kernel) (by decide +kernel)
theorem zw8 : Cond.selects RX0 yX0_isLost yX0_isLost ∈ zBig := zin 164 (by decide +kernel) (by decide +kernel)
theorem zw9 : Cond.initialized RX0 ∈ zBig := zin 60 (by decide +kernel) (by decide +kernel)
theorem zw10 : Cond.code yX0_cutAheadOf cX0_cutAheadOf 3 (some .int) ∈ zBig := zin 466 (by decide +kernel) (by decide +kernel)
theorem zw11 : Cond.methodLink RX0 20 yX0_cutAheadOf ∈ zBig := zin 464 (by decide +kernel) (by decide +kernel)
theorem zw12 : Cond.static yX0_cutAheadOf ∈ zBig := zin 465 (by decide +kernel) (by decide +kernel)
theorem zw13 : Cond.methodLink RX0 24 Lib.Math.min.name ∈ zBig := zin 467 (by decide +kernel) (by decide +kernel)
theorem zw14 : Cond.static Lib.Math.min.name ∈ zBig := zin 468 (by decide +kernel) (by decide +kernel)
theorem zw15 : Cond.initialized "java/lang/Math" ∈ zBig := zin 61 (by decide +kernel) (by decide +kernel)
theorem zw16 : Cond.code Lib.Math.min.name Lib.Math.min.code 2 (some .int) ∈ zBig := zin 469 (by decide +kernel) (by decide +kernel)
theorem zw17 : Cond.methodLink RX0 30 Lib.Math.max.name ∈ zBig := zin 470 (by decide +kernel) (by decide +kernel)
theorem zw18 : Cond.static Lib.Math.max.name ∈ zBig := zin 471 (by decide +kernel) (by decide +kernel)
theorem zw19 : Cond.code Lib.Math.max.name Lib.Math.max.code 2 (some .int) ∈ zBig := zin 472 (by decide +kernel) (by decide +kernel)
theorem zw20 : Cond.methodLink RX1 3 Lib.objectInit ∈ zBig := zin 105 (by decide +kernel) (by decide +kernel)
theorem zw21 : Cond.classLink RX1 11 "[[I" ∈ zBig := zin 106 (by decide +kernel) (by decide +kernel)
theorem zw22 : Cond.arrayClass .int ∈ zBig := zin 97 (by decide +kernel) (by decide +kernel)
theorem zw23 : Cond.fieldLink RX1 13 "Marginalia$Export" "columns" "[[I" ∈ zBig := zin 107 (by decide +kernel) (by decide +kernel)
theorem zw24 : Cond.fieldLink RX1 22 "Marginalia$Export" "size" "I" ∈ zBig := zin 109 (by decide +kernel) (by decide +kernel)
theorem zw25 : Cond.code yX2_contentShown cX2_contentShown 1 (some .int) ∈ zBig := zin 361 (by decide +kernel) (by decide +kernel)
theorem zw26 : Cond.methodLink RX1 47 yX2_contentShown ∈ zBig := zin 744 (by decide +kernel) (by decide +kernel)
theorem zw27 : Cond.instanceMethod yX2_contentShown ∈ zBig := zin 359 (by decide +kernel) (by decide +kernel)
theorem zw28 : Cond.selects RX2 yX2_contentShown yX2_contentShown ∈ zBig := zin 360 (by decide +kernel) (by decide +kernel)
theorem zw29 : Cond.initialized RX2 ∈ zBig := zin 63 (by decide +kernel) (by decide +kernel)
theorem zw30 : Cond.methodLink RX2 3 Lib.objectInit ∈ zBig := zin 578 (by decide +kernel) (by decide +kernel)
theorem zw31 : Cond.fieldLink RX2 9 "Marginalia$Note" "number" "I" ∈ zBig := zin 579 (by decide +kernel) (by decide +kernel)
theorem zw32 : Cond.fieldLink RX2 15 "Marginalia$Note" "author" "I" ∈ zBig := zin 582 (by decide +kernel) (by decide +kernel)
theorem zw33 : Cond.fieldLink RX2 18 "Marginalia$Note" "content" "I" ∈ zBig := zin 584 (by decide +kernel) (by decide +kernel)
theorem zw34 : Cond.fieldLink RX2 21 "Marginalia$Note" "parent" "LMarginalia$Note;" ∈ zBig := zin 587 (by decide +kernel) (by decide +kernel)
theorem zw35 : Cond.fieldLink RX2 25 "Marginalia$Note" "strand" "LMarginalia$Strand;" ∈ zBig := zin 588 (by decide +kernel) (by decide +kernel)
theorem zw36 : Cond.fieldLink RX2 29 "Marginalia$Note" "depth" "I" ∈ zBig := zin 585 (by decide +kernel) (by decide +kernel)
theorem zw37 : Cond.fieldLink RX2 32 "Marginalia$Note" "isGone" "Z" ∈ zBig := zin 598 (by decide +kernel) (by decide +kernel)
theorem zw38 : Cond.fieldLink RX2 36 "Marginalia$Note" "isEmpty" "Z" ∈ zBig := zin 595 (by decide +kernel) (by decide +kernel)
theorem zw39 : Cond.fieldLink RX2 39 "Marginalia$Note" "nextInOrder" "LMarginalia$Note;" ∈ zBig := zin 592 (by decide +kernel) (by decide +kernel)
theorem zw40 : Cond.fieldLink RX2 42 "Marginalia$Note" "repliesNotGone" "I" ∈ zBig := zin 594 (by decide +kernel) (by decide +kernel)
theorem zw41 : Cond.methodLink RX2 50 yX2_contentShown ∈ zBig := zin 358 (by decide +kernel) (by decide +kernel)
theorem zw42 : Cond.methodLink RX3 3 Lib.objectInit ∈ zBig := zin 536 (by decide +kernel) (by decide +kernel)
theorem zw43 : Cond.fieldLink RX3 9 "Marginalia$Strand" "headNumber" "I" ∈ zBig := zin 537 (by decide +kernel) (by decide +kernel)
theorem zw44 : Cond.fieldLink RX3 15 "Marginalia$Strand" "author" "I" ∈ zBig := zin 540 (by decide +kernel) (by decide +kernel)
theorem zw45 : Cond.fieldLink RX3 18 "Marginalia$Strand" "view" "I" ∈ zBig := zin 542 (by decide +kernel) (by decide +kernel)
theorem zw46 : Cond.fieldLink RX3 21 "Marginalia$Strand" "anchor" "LMarginalia$Anchor;" ∈ zBig := zin 544 (by decide +kernel) (by decide +kernel)
theorem zw47 : Cond.fieldLink RX3 25 "Marginalia$Strand" "quoted" "[I" ∈ zBig := zin 548 (by decide +kernel) (by decide +kernel)
theorem zw48 : Cond.fieldLink RX3 29 "Marginalia$Strand" "proposedMany" "I" ∈ zBig := zin 553 (by decide +kernel) (by decide +kernel)
theorem zw49 : Cond.fieldLink RX3 32 "Marginalia$Strand" "isSettled" "Z" ∈ zBig := zin 550 (by decide +kernel) (by decide +kernel)
theorem zw50 : Cond.methodLink RX3 36 yX0_isLost ∈ zBig := zin 198 (by decide +kernel) (by decide +kernel)
theorem zw51 : Cond.methodLink RX4 3 Lib.objectInit ∈ zBig := zin 77 (by decide +kernel) (by decide +kernel)
theorem zw52 : Cond.classLink RX4 9 "[[I" ∈ zBig := zin 78 (by decide +kernel) (by decide +kernel)
theorem zw53 : Cond.fieldLink RX4 11 "Marginalia$Text" "namesIn" "[[I" ∈ zBig := zin 80 (by decide +kernel) (by decide +kernel)
theorem zw54 : Cond.fieldLink RX4 16 "Marginalia$Text" "sizeIn" "[I" ∈ zBig := zin 81 (by decide +kernel) (by decide +kernel)
theorem zw55 : Cond.fieldLink RX4 20 "Marginalia$Text" "signOfName" "[I" ∈ zBig := zin 82 (by decide +kernel) (by decide +kernel)
theorem zw56 : Cond.fieldLink RX4 23 "Marginalia$Text" "edits" "I" ∈ zBig := zin 84 (by decide +kernel) (by decide +kernel)
theorem zw57 : Cond.code yX4_size cX4_size 1 (some .int) ∈ zBig := zin 145 (by decide +kernel) (by decide +kernel)
theorem zw58 : Cond.methodLink RX4 27 yX4_size ∈ zBig := zin 174 (by decide +kernel) (by decide +kernel)
theorem zw59 : Cond.instanceMethod yX4_size ∈ zBig := zin 143 (by decide +kernel) (by decide +kernel)
theorem zw60 : Cond.selects RX4 yX4_size yX4_size ∈ zBig := zin 144 (by decide +kernel) (by decide +kernel)
theorem zw61 : Cond.initialized RX4 ∈ zBig := zin 50 (by decide +kernel) (by decide +kernel)
theorem zw62 : Cond.code yX5_isWithin cX5_isWithin 3 (some .boolean) ∈ zBig := zin 177 (by decide +kernel) (by decide +kernel)
theorem zw63 : Cond.initialized RX5 ∈ zBig := zin 49 (by decide +kernel) (by decide +kernel)
theorem zw64 : Cond.static yX5_isWithin ∈ zBig := zin 176 (by decide +kernel) (by decide +kernel)
theorem zw65 : Cond.code yX4_signIn cX4_signIn 3 (some .int) ∈ zBig := zin 181 (by decide +kernel) (by decide +kernel)
theorem zw66 : Cond.methodLink RX4 35 yX4_signIn ∈ zBig := zin 178 (by decide +kernel) (by decide +kernel)
theorem zw67 : Cond.instanceMethod yX4_signIn ∈ zBig := zin 179 (by decide +kernel) (by decide +kernel)
theorem zw68 : Cond.selects RX4 yX4_signIn yX4_signIn ∈ zBig := zin 180 (by decide +kernel) (by decide +kernel)
theorem zw69 : Cond.methodLink RX4 39 arraycopyName ∈ zBig := zin 433 (by decide +kernel) (by decide +kernel)
theorem zw70 : Cond.native arraycopyName ∈ zBig := zin 435 (by decide +kernel) (by decide +kernel)
theorem zw71 : Cond.static arraycopyName ∈ zBig := zin 434 (by decide +kernel) (by decide +kernel)
theorem zw72 : Cond.initialized "java/lang/System" ∈ zBig := zin 59 (by decide +kernel) (by decide +kernel)
theorem zw73 : Cond.fieldLink RX4 45 "Marginalia$Text" "nameCount" "I" ∈ zBig := zin 83 (by decide +kernel) (by decide +kernel)
theorem zw74 : Cond.methodLink RX5 1 Lib.objectInit ∈ zBig := zin 69 (by decide +kernel) (by decide +kernel)
theorem zw75 : Cond.fieldLink RX5 9 "Marginalia" "rights" "[I" ∈ zBig := zin 116 (by decide +kernel) (by decide +kernel)
theorem zw76 : Cond.classLink RX5 13 RX4 ∈ zBig := zin 72 (by decide +kernel) (by decide +kernel)
theorem zw77 : Cond.instantiable RX4 5 ∈ zBig := zin 73 (by decide +kernel) (by decide +kernel)
theorem zw78 : Cond.code yX4_init cX4_init 1 none ∈ zBig := zin 76 (by decide +kernel) (by decide +kernel)
theorem zw79 : Cond.methodLink RX5 15 yX4_init ∈ zBig := zin 74 (by decide +kernel) (by decide +kernel)
theorem zw80 : Cond.instanceMethod yX4_init ∈ zBig := zin 75 (by decide +kernel) (by decide +kernel)
theorem zw81 : Cond.fieldLink RX5 16 "Marginalia" "text" "LMarginalia$Text;" ∈ zBig := zin 117 (by decide +kernel) (by decide +kernel)
theorem zw82 : Cond.classLink RX5 20 RX2 ∈ zBig := zin 98 (by decide +kernel) (by decide +kernel)
theorem zw83 : Cond.fieldLink RX5 22 "Marginalia" "notes" "[LMarginalia$Note;" ∈ zBig := zin 118 (by decide +kernel) (by decide +kernel)
theorem zw84 : Cond.fieldLink RX5 26 "Marginalia" "chosenHeads" "[LMarginalia$Note;" ∈ zBig := zin 119 (by decide +kernel) (by decide +kernel)
theorem zw85 : Cond.classLink RX5 29 RX1 ∈ zBig := zin 100 (by decide +kernel) (by decide +kernel)
theorem zw86 : Cond.instantiable RX1 2 ∈ zBig := zin 101 (by decide +kernel) (by decide +kernel)
theorem zw87 : Cond.initialized RX1 ∈ zBig := zin 51 (by decide +kernel) (by decide +kernel)
theorem zw88 : Cond.code yX1_init cX1_init 1 none ∈ zBig := zin 104 (by decide +kernel) (by decide +kernel)
theorem zw89 : Cond.methodLink RX5 31 yX1_init ∈ zBig := zin 102 (by decide +kernel) (by decide +kernel)
theorem zw90 : Cond.instanceMethod yX1_init ∈ zBig := zin 103 (by decide +kernel) (by decide +kernel)
theorem zw91 : Cond.fieldLink RX5 32 "Marginalia" "kept" "LMarginalia$Export;" ∈ zBig := zin 120 (by decide +kernel) (by decide +kernel)
theorem zw92 : Cond.code yX5_isRight cX5_isRight 1 (some .boolean) ∈ zBig := zin 323 (by decide +kernel) (by decide +kernel)
theorem zw93 : Cond.methodLink RX5 36 yX5_isRight ∈ zBig := zin 321 (by decide +kernel) (by decide +kernel)
theorem zw94 : Cond.static yX5_isRight ∈ zBig := zin 322 (by decide +kernel) (by decide +kernel)
theorem zw95 : Cond.code yX5_requireArgument cX5_requireArgument 1 none ∈ zBig := zin 219 (by decide +kernel) (by decide +kernel)
theorem zw96 : Cond.methodLink RX5 40 yX5_requireArgument ∈ zBig := zin 217 (by decide +kernel) (by decide +kernel)
theorem zw97 : Cond.static yX5_requireArgument ∈ zBig := zin 218 (by decide +kernel) (by decide +kernel)
theorem zw98 : Cond.fieldLink RX5 44 "Marginalia" "userCount" "I" ∈ zBig := zin 121 (by decide +kernel) (by decide +kernel)
theorem zw99 : Cond.code yX5_requireState cX5_requireState 1 none ∈ zBig := zin 385 (by decide +kernel) (by decide +kernel)
theorem zw100 : Cond.methodLink RX5 48 yX5_requireState ∈ zBig := zin 383 (by decide +kernel) (by decide +kernel)
theorem zw101 : Cond.static yX5_requireState ∈ zBig := zin 384 (by decide +kernel) (by decide +kernel)
theorem zw102 : Cond.code yX5_requireUser cX5_requireUser 2 none ∈ zBig := zin 304 (by decide +kernel) (by decide +kernel)
theorem zw103 : Cond.methodLink RX5 51 yX5_requireUser ∈ zBig := zin 301 (by decide +kernel) (by decide +kernel)
theorem zw104 : Cond.instanceMethod yX5_requireUser ∈ zBig := zin 303 (by decide +kernel) (by decide +kernel)
theorem zw105 : Cond.selects RX5 yX5_requireUser yX5_requireUser ∈ zBig := zin 7 (by decide +kernel) (by decide +kernel)
theorem zw106 : Cond.methodLink RX5 55 yX4_size ∈ zBig := zin 142 (by decide +kernel) (by decide +kernel)
theorem zw107 : Cond.methodLink RX5 59 yX5_isWithin ∈ zBig := zin 216 (by decide +kernel) (by decide +kernel)
theorem zw108 : Cond.code yX5_requireIndex cX5_requireIndex 1 none ∈ zBig := zin 419 (by decide +kernel) (by decide +kernel)
theorem zw109 : Cond.methodLink RX5 63 yX5_requireIndex ∈ zBig := zin 417 (by decide +kernel) (by decide +kernel)
theorem zw110 : Cond.static yX5_requireIndex ∈ zBig := zin 418 (by decide +kernel) (by decide +kernel)
theorem zw111 : Cond.code yX4_hasRoomFor cX4_hasRoomFor 3 (some .boolean) ∈ zBig := zin 424 (by decide +kernel) (by decide +kernel)
theorem zw112 : Cond.methodLink RX5 66 yX4_hasRoomFor ∈ zBig := zin 421 (by decide +kernel) (by decide +kernel)
theorem zw113 : Cond.instanceMethod yX4_hasRoomFor ∈ zBig := zin 422 (by decide +kernel) (by decide +kernel)
theorem zw114 : Cond.selects RX4 yX4_hasRoomFor yX4_hasRoomFor ∈ zBig := zin 423 (by decide +kernel) (by decide +kernel)
theorem zw115 : Cond.code yX5_putSigns cX5_putSigns 5 none ∈ zBig := zin 428 (by decide +kernel) (by decide +kernel)
theorem zw116 : Cond.methodLink RX5 70 yX5_putSigns ∈ zBig := zin 425 (by decide +kernel) (by decide +kernel)
theorem zw117 : Cond.instanceMethod yX5_putSigns ∈ zBig := zin 427 (by decide +kernel) (by decide +kernel)
theorem zw118 : Cond.selects RX5 yX5_putSigns yX5_putSigns ∈ zBig := zin 12 (by decide +kernel) (by decide +kernel)
theorem zw119 : Cond.code yX5_requireSign cX5_requireSign 2 none ∈ zBig := zin 454 (by decide +kernel) (by decide +kernel)
theorem zw120 : Cond.methodLink RX5 74 yX5_requireSign ∈ zBig := zin 451 (by decide +kernel) (by decide +kernel)
theorem zw121 : Cond.instanceMethod yX5_requireSign ∈ zBig := zin 453 (by decide +kernel) (by decide +kernel)
theorem zw122 : Cond.selects RX5 yX5_requireSign yX5_requireSign ∈ zBig := zin 13 (by decide +kernel) (by decide +kernel)
theorem zw123 : Cond.code yX5_cutSigns cX5_cutSigns 4 none ∈ zBig := zin 459 (by decide +kernel) (by decide +kernel)
theorem zw124 : Cond.methodLink RX5 77 yX5_cutSigns ∈ zBig := zin 456 (by decide +kernel) (by decide +kernel)
theorem zw125 : Cond.instanceMethod yX5_cutSigns ∈ zBig := zin 458 (by decide +kernel) (by decide +kernel)
theorem zw126 : Cond.selects RX5 yX5_cutSigns yX5_cutSigns ∈ zBig := zin 14 (by decide +kernel) (by decide +kernel)
theorem zw127 : Cond.code yX4_hasVersion cX4_hasVersion 2 (some .boolean) ∈ zBig := zin 483 (by decide +kernel) (by decide +kernel)
theorem zw128 : Cond.methodLink RX5 81 yX4_hasVersion ∈ zBig := zin 480 (by decide +kernel) (by decide +kernel)
theorem zw129 : Cond.instanceMethod yX4_hasVersion ∈ zBig := zin 481 (by decide +kernel) (by decide +kernel)
theorem zw130 : Cond.selects RX4 yX4_hasVersion yX4_hasVersion ∈ zBig := zin 482 (by decide +kernel) (by decide +kernel)
theorem zw131 : Cond.code yX4_hasSignIn cX4_hasSignIn 3 (some .boolean) ∈ zBig := zin 487 (by decide +kernel) (by decide +kernel)
theorem zw132 : Cond.methodLink RX5 84 yX4_hasSignIn ∈ zBig := zin 484 (by decide +kernel) (by decide +kernel)
theorem zw133 : Cond.instanceMethod yX4_hasSignIn ∈ zBig := zin 485 (by decide +kernel) (by decide +kernel)
theorem zw134 : Cond.selects RX4 yX4_hasSignIn yX4_hasSignIn ∈ zBig := zin 486 (by decide +kernel) (by decide +kernel)
theorem zw135 : Cond.methodLink RX5 87 yX4_signIn ∈ zBig := zin 292 (by decide +kernel) (by decide +kernel)
theorem zw136 : Cond.code yX4_placeNow cX4_placeNow 5 (some .int) ∈ zBig := zin 498 (by decide +kernel) (by decide +kernel)
theorem zw137 : Cond.methodLink RX5 91 yX4_placeNow ∈ zBig := zin 495 (by decide +kernel) (by decide +kernel)
theorem zw138 : Cond.instanceMethod yX4_placeNow ∈ zBig := zin 496 (by decide +kernel) (by decide +kernel)
theorem zw139 : Cond.selects RX4 yX4_placeNow yX4_placeNow ∈ zBig := zin 497 (by decide +kernel) (by decide +kernel)
theorem zw140 : Cond.code yX5_isContent cX5_isContent 1 (some .boolean) ∈ zBig := zin 508 (by decide +kernel) (by decide +kernel)
theorem zw141 : Cond.methodLink RX5 97 yX5_isContent ∈ zBig := zin 506 (by decide +kernel) (by decide +kernel)
theorem zw142 : Cond.static yX5_isContent ∈ zBig := zin 507 (by decide +kernel) (by decide +kernel)
theorem zw143 : Cond.fieldLink RX5 100 "Marginalia" "noteCount" "I" ∈ zBig := zin 122 (by decide +kernel) (by decide +kernel)
theorem zw144 : Cond.classLink RX5 103 RX3 ∈ zBig := zin 509 (by decide +kernel) (by decide +kernel)
theorem zw145 : Cond.instantiable RX3 8 ∈ zBig := zin 510 (by decide +kernel) (by decide +kernel)
theorem zw146 : Cond.initialized RX3 ∈ zBig := zin 62 (by decide +kernel) (by decide +kernel)
theorem zw147 : Cond.classLink RX5 105 RX0 ∈ zBig := zin 511 (by decide +kernel) (by decide +kernel)
theorem zw148 : Cond.instantiable RX0 2 ∈ zBig := zin 512 (by decide +kernel) (by decide +kernel)
theorem zw149 : Cond.code yX0_init cX0_init 3 none ∈ zBig := zin 515 (by decide +kernel) (by decide +kernel)
theorem zw150 : Cond.methodLink RX5 107 yX0_init ∈ zBig := zin 513 (by decide +kernel) (by decide +kernel)
theorem zw151 : Cond.instanceMethod yX0_init ∈ zBig := zin 514 (by decide +kernel) (by decide +kernel)
theorem zw152 : Cond.code yX5_quoteOf cX5_quoteOf 5 (some (.array .int)) ∈ zBig := zin 531 (by decide +kernel) (by decide +kernel)
theorem zw153 : Cond.methodLink RX5 109 yX5_quoteOf ∈ zBig := zin 528 (by decide +kernel) (by decide +kernel)
theorem zw154 : Cond.instanceMethod yX5_quoteOf ∈ zBig := zin 530 (by decide +kernel) (by decide +kernel)
theorem zw155 : Cond.selects RX5 yX5_quoteOf yX5_quoteOf ∈ zBig := zin 15 (by decide +kernel) (by decide +kernel)
theorem zw156 : Cond.code yX3_init cX3_init 6 none ∈ zBig := zin 535 (by decide +kernel) (by decide +kernel)
theorem zw157 : Cond.methodLink RX5 113 yX3_init ∈ zBig := zin 533 (by decide +kernel) (by decide +kernel)
theorem zw158 : Cond.instanceMethod yX3_init ∈ zBig := zin 534 (by decide +kernel) (by decide +kernel)
theorem zw159 : Cond.instantiable RX2 10 ∈ zBig := zin 574 (by decide +kernel) (by decide +kernel)
theorem zw160 : Cond.code yX2_init cX2_init 6 none ∈ zBig := zin 577 (by decide +kernel) (by decide +kernel)
theorem zw161 : Cond.methodLink RX5 116 yX2_init ∈ zBig := zin 575 (by decide +kernel) (by decide +kernel)
theorem zw162 : Cond.instanceMethod yX2_init ∈ zBig := zin 576 (by decide +kernel) (by decide +kernel)
theorem zw163 : Cond.code yX5_keepNote cX5_keepNote 2 (some .int) ∈ zBig := zin 624 (by decide +kernel) (by decide +kernel)
theorem zw164 : Cond.methodLink RX5 119 yX5_keepNote ∈ zBig := zin 621 (by decide +kernel) (by decide +kernel)
theorem zw165 : Cond.instanceMethod yX5_keepNote ∈ zBig := zin 623 (by decide +kernel) (by decide +kernel)
theorem zw166 : Cond.selects RX5 yX5_keepNote yX5_keepNote ∈ zBig := zin 16 (by decide +kernel) (by decide +kernel)
theorem zw167 : Cond.code yX5_requireNote cX5_requireNote 3 (some (.object "Marginalia$Note")) ∈ zBig := zin 351 (by decide +kernel) (by decide +kernel)
theorem zw168 : Cond.methodLink RX5 123 yX5_requireNote ∈ zBig := zin 348 (by decide +kernel) (by decide +kernel)
theorem zw169 : Cond.instanceMethod yX5_requireNote ∈ zBig := zin 350 (by decide +kernel) (by decide +kernel)
theorem zw170 : Cond.selects RX5 yX5_requireNote yX5_requireNote ∈ zBig := zin 10 (by decide +kernel) (by decide +kernel)
theorem zw171 : Cond.code yX5_isSeen cX5_isSeen 3 (some .boolean) ∈ zBig := zin 335 (by decide +kernel) (by decide +kernel)
theorem zw172 : Cond.methodLink RX5 127 yX5_isSeen ∈ zBig := zin 332 (by decide +kernel) (by decide +kernel)
theorem zw173 : Cond.instanceMethod yX5_isSeen ∈ zBig := zin 334 (by decide +kernel) (by decide +kernel)
theorem zw174 : Cond.selects RX5 yX5_isSeen yX5_isSeen ∈ zBig := zin 8 (by decide +kernel) (by decide +kernel)
theorem zw175 : Cond.code yX2_addReply cX2_addReply 3 none ∈ zBig := zin 635 (by decide +kernel) (by decide +kernel)
theorem zw176 : Cond.methodLink RX5 139 yX2_addReply ∈ zBig := zin 632 (by decide +kernel) (by decide +kernel)
theorem zw177 : Cond.instanceMethod yX2_addReply ∈ zBig := zin 633 (by decide +kernel) (by decide +kernel)
theorem zw178 : Cond.selects RX2 yX2_addReply yX2_addReply ∈ zBig := zin 634 (by decide +kernel) (by decide +kernel)
theorem zw179 : Cond.code yX2_emptyAndDrop cX2_emptyAndDrop 3 (some .int) ∈ zBig := zin 653 (by decide +kernel) (by decide +kernel)
theorem zw180 : Cond.methodLink RX5 150 yX2_emptyAndDrop ∈ zBig := zin 650 (by decide +kernel) (by decide +kernel)
theorem zw181 : Cond.instanceMethod yX2_emptyAndDrop ∈ zBig := zin 651 (by decide +kernel) (by decide +kernel)
theorem zw182 : Cond.selects RX2 yX2_emptyAndDrop yX2_emptyAndDrop ∈ zBig := zin 652 (by decide +kernel) (by decide +kernel)
theorem zw183 : Cond.code yX2_isHead cX2_isHead 1 (some .boolean) ∈ zBig := zin 439 (by decide +kernel) (by decide +kernel)
theorem zw184 : Cond.methodLink RX5 153 yX2_isHead ∈ zBig := zin 436 (by decide +kernel) (by decide +kernel)
theorem zw185 : Cond.instanceMethod yX2_isHead ∈ zBig := zin 437 (by decide +kernel) (by decide +kernel)
theorem zw186 : Cond.selects RX2 yX2_isHead yX2_isHead ∈ zBig := zin 438 (by decide +kernel) (by decide +kernel)
theorem zw187 : Cond.code yX5_canTake cX5_canTake 3 (some .boolean) ∈ zBig := zin 671 (by decide +kernel) (by decide +kernel)
theorem zw188 : Cond.methodLink RX5 166 yX5_canTake ∈ zBig := zin 668 (by decide +kernel) (by decide +kernel)
theorem zw189 : Cond.instanceMethod yX5_canTake ∈ zBig := zin 670 (by decide +kernel) (by decide +kernel)
theorem zw190 : Cond.selects RX5 yX5_canTake yX5_canTake ∈ zBig := zin 17 (by decide +kernel) (by decide +kernel)
theorem zw191 : Cond.code yX5_putProposal cX5_putProposal 5 none ∈ zBig := zin 679 (by decide +kernel) (by decide +kernel)
theorem zw192 : Cond.methodLink RX5 170 yX5_putProposal ∈ zBig := zin 676 (by decide +kernel) (by decide +kernel)
theorem zw193 : Cond.instanceMethod yX5_putProposal ∈ zBig := zin 678 (by decide +kernel) (by decide +kernel)
theorem zw194 : Cond.selects RX5 yX5_putProposal yX5_putProposal ∈ zBig := zin 18 (by decide +kernel) (by decide +kernel)
theorem zw195 : Cond.code yX2_isHeadNotGone cX2_isHeadNotGone 1 (some .boolean) ∈ zBig := zin 157 (by decide +kernel) (by decide +kernel)
theorem zw196 : Cond.methodLink RX5 174 yX2_isHeadNotGone ∈ zBig := zin 154 (by decide +kernel) (by decide +kernel)
theorem zw197 : Cond.instanceMethod yX2_isHeadNotGone ∈ zBig := zin 155 (by decide +kernel) (by decide +kernel)
theorem zw198 : Cond.selects RX2 yX2_isHeadNotGone yX2_isHeadNotGone ∈ zBig := zin 156 (by decide +kernel) (by decide +kernel)
theorem zw199 : Cond.code yX5_healAnchor cX5_healAnchor 3 (some .boolean) ∈ zBig := zin 161 (by decide +kernel) (by decide +kernel)
theorem zw200 : Cond.methodLink RX5 177 yX5_healAnchor ∈ zBig := zin 158 (by decide +kernel) (by decide +kernel)
theorem zw201 : Cond.instanceMethod yX5_healAnchor ∈ zBig := zin 160 (by decide +kernel) (by decide +kernel)
theorem zw202 : Cond.selects RX5 yX5_healAnchor yX5_healAnchor ∈ zBig := zin 0 (by decide +kernel) (by decide +kernel)
theorem zw203 : Cond.code yX5_countNotes cX5_countNotes 3 (some .int) ∈ zBig := zin 202 (by decide +kernel) (by decide +kernel)
theorem zw204 : Cond.methodLink RX5 180 yX5_countNotes ∈ zBig := zin 199 (by decide +kernel) (by decide +kernel)
theorem zw205 : Cond.instanceMethod yX5_countNotes ∈ zBig := zin 201 (by decide +kernel) (by decide +kernel)
theorem zw206 : Cond.selects RX5 yX5_countNotes yX5_countNotes ∈ zBig := zin 3 (by decide +kernel) (by decide +kernel)
theorem zw207 : Cond.code yX5_countStrands cX5_countStrands 4 (some .int) ∈ zBig := zin 193 (by decide +kernel) (by decide +kernel)
theorem zw208 : Cond.methodLink RX5 183 yX5_countStrands ∈ zBig := zin 190 (by decide +kernel) (by decide +kernel)
theorem zw209 : Cond.instanceMethod yX5_countStrands ∈ zBig := zin 192 (by decide +kernel) (by decide +kernel)
theorem zw210 : Cond.selects RX5 yX5_countStrands yX5_countStrands ∈ zBig := zin 2 (by decide +kernel) (by decide +kernel)
theorem zw211 : Cond.code yX2_fact cX2_fact 2 (some .int) ∈ zBig := zin 357 (by decide +kernel) (by decide +kernel)
theorem zw212 : Cond.methodLink RX5 187 yX2_fact ∈ zBig := zin 354 (by decide +kernel) (by decide +kernel)
theorem zw213 : Cond.instanceMethod yX2_fact ∈ zBig := zin 355 (by decide +kernel) (by decide +kernel)
theorem zw214 : Cond.selects RX2 yX2_fact yX2_fact ∈ zBig := zin 356 (by decide +kernel) (by decide +kernel)
theorem zw215 : Cond.code yX5_headOf cX5_headOf 2 (some (.object "Marginalia$Note")) ∈ zBig := zin 716 (by decide +kernel) (by decide +kernel)
theorem zw216 : Cond.methodLink RX5 193 yX5_headOf ∈ zBig := zin 713 (by decide +kernel) (by decide +kernel)
theorem zw217 : Cond.instanceMethod yX5_headOf ∈ zBig := zin 715 (by decide +kernel) (by decide +kernel)
theorem zw218 : Cond.selects RX5 yX5_headOf yX5_headOf ∈ zBig := zin 19 (by decide +kernel) (by decide +kernel)
theorem zw219 : Cond.code yX0_covers cX0_covers 2 (some .boolean) ∈ zBig := zin 339 (by decide +kernel) (by decide +kernel)
theorem zw220 : Cond.methodLink RX5 208 yX0_covers ∈ zBig := zin 336 (by decide +kernel) (by decide +kernel)
theorem zw221 : Cond.instanceMethod yX0_covers ∈ zBig := zin 337 (by decide +kernel) (by decide +kernel)
theorem zw222 : Cond.selects RX0 yX0_covers yX0_covers ∈ zBig := zin 338 (by decide +kernel) (by decide +kernel)
theorem zw223 : Cond.code yX5_chooseHeads cX5_chooseHeads 6 (some .int) ∈ zBig := zin 731 (by decide +kernel) (by decide +kernel)
theorem zw224 : Cond.methodLink RX5 211 yX5_chooseHeads ∈ zBig := zin 728 (by decide +kernel) (by decide +kernel)
theorem zw225 : Cond.instanceMethod yX5_chooseHeads ∈ zBig := zin 730 (by decide +kernel) (by decide +kernel)
theorem zw226 : Cond.selects RX5 yX5_chooseHeads yX5_chooseHeads ∈ zBig := zin 20 (by decide +kernel) (by decide +kernel)
theorem zw227 : Cond.code yX1_addOrder cX1_addOrder 3 none ∈ zBig := zin 743 (by decide +kernel) (by decide +kernel)
theorem zw228 : Cond.methodLink RX5 217 yX1_addOrder ∈ zBig := zin 740 (by decide +kernel) (by decide +kernel)
theorem zw229 : Cond.instanceMethod yX1_addOrder ∈ zBig := zin 741 (by decide +kernel) (by decide +kernel)
theorem zw230 : Cond.selects RX1 yX1_addOrder yX1_addOrder ∈ zBig := zin 742 (by decide +kernel) (by decide +kernel)
theorem zw231 : Cond.code yX0_wouldBeLost cX0_wouldBeLost 3 (some .boolean) ∈ zBig := zin 762 (by decide +kernel) (by decide +kernel)
theorem zw232 : Cond.methodLink RX5 224 yX0_wouldBeLost ∈ zBig := zin 759 (by decide +kernel) (by decide +kernel)
theorem zw233 : Cond.instanceMethod yX0_wouldBeLost ∈ zBig := zin 760 (by decide +kernel) (by decide +kernel)
theorem zw234 : Cond.selects RX0 yX0_wouldBeLost yX0_wouldBeLost ∈ zBig := zin 761 (by decide +kernel) (by decide +kernel)
theorem zw235 : Cond.code yX5_placeOfQuote cX5_placeOfQuote 4 (some .int) ∈ zBig := zin 169 (by decide +kernel) (by decide +kernel)
theorem zw236 : Cond.methodLink RX5 227 yX5_placeOfQuote ∈ zBig := zin 166 (by decide +kernel) (by decide +kernel)
theorem zw237 : Cond.instanceMethod yX5_placeOfQuote ∈ zBig := zin 168 (by decide +kernel) (by decide +kernel)
theorem zw238 : Cond.selects RX5 yX5_placeOfQuote yX5_placeOfQuote ∈ zBig := zin 1 (by decide +kernel) (by decide +kernel)
theorem zw239 : Cond.code yX3_isSeenBy cX3_isSeenBy 3 (some .boolean) ∈ zBig := zin 327 (by decide +kernel) (by decide +kernel)
theorem zw240 : Cond.methodLink RX5 231 yX3_isSeenBy ∈ zBig := zin 324 (by decide +kernel) (by decide +kernel)
theorem zw241 : Cond.instanceMethod yX3_isSeenBy ∈ zBig := zin 325 (by decide +kernel) (by decide +kernel)
theorem zw242 : Cond.selects RX3 yX3_isSeenBy yX3_isSeenBy ∈ zBig := zin 326 (by decide +kernel) (by decide +kernel)
theorem zw243 : Cond.constantLong RX5 234 (58083 : Int64) ∈ zBig := zin 207 (by decide +kernel) (by decide +kernel)
theorem zw244 : Cond.code yX5_digestText cX5_digestText 6 (some .long) ∈ zBig := zin 211 (by decide +kernel) (by decide +kernel)
theorem zw245 : Cond.methodLink RX5 236 yX5_digestText ∈ zBig := zin 208 (by decide +kernel) (by decide +kernel)
theorem zw246 : Cond.instanceMethod yX5_digestText ∈ zBig := zin 210 (by decide +kernel) (by decide +kernel)
theorem zw247 : Cond.selects RX5 yX5_digestText yX5_digestText ∈ zBig := zin 4 (by decide +kernel) (by decide +kernel)
theorem zw248 : Cond.code yX5_digestUser cX5_digestUser 6 (some .long) ∈ zBig := zin 296 (by decide +kernel) (by decide +kernel)
theorem zw249 : Cond.methodLink RX5 240 yX5_digestUser ∈ zBig := zin 293 (by decide +kernel) (by decide +kernel)
theorem zw250 : Cond.instanceMethod yX5_digestUser ∈ zBig := zin 295 (by decide +kernel) (by decide +kernel)
theorem zw251 : Cond.selects RX5 yX5_digestUser yX5_digestUser ∈ zBig := zin 6 (by decide +kernel) (by decide +kernel)
theorem zw252 : Cond.code yX5_digestNote cX5_digestNote 7 (some .long) ∈ zBig := zin 343 (by decide +kernel) (by decide +kernel)
theorem zw253 : Cond.methodLink RX5 244 yX5_digestNote ∈ zBig := zin 340 (by decide +kernel) (by decide +kernel)
theorem zw254 : Cond.instanceMethod yX5_digestNote ∈ zBig := zin 342 (by decide +kernel) (by decide +kernel)
theorem zw255 : Cond.selects RX5 yX5_digestNote yX5_digestNote ∈ zBig := zin 9 (by decide +kernel) (by decide +kernel)
theorem zw256 : Cond.code yX5_digestExport cX5_digestExport 7 (some .long) ∈ zBig := zin 373 (by decide +kernel) (by decide +kernel)
theorem zw257 : Cond.methodLink RX5 247 yX5_digestExport ∈ zBig := zin 370 (by decide +kernel) (by decide +kernel)
theorem zw258 : Cond.instanceMethod yX5_digestExport ∈ zBig := zin 372 (by decide +kernel) (by decide +kernel)
theorem zw259 : Cond.selects RX5 yX5_digestExport yX5_digestExport ∈ zBig := zin 11 (by decide +kernel) (by decide +kernel)
theorem zw260 : Cond.classLink RX5 250 "java/lang/IndexOutOfBoundsException" ∈ zBig := zin 305 (by decide +kernel) (by decide +kernel)
theorem zw261 : Cond.initialized "java/lang/IndexOutOfBoundsException" ∈ zBig := zin 58 (by decide +kernel) (by decide +kernel)
theorem zw262 : Cond.classLink RX5 265 "java/lang/IllegalArgumentException" ∈ zBig := zin 220 (by decide +kernel) (by decide +kernel)
theorem zw263 : Cond.initialized "java/lang/IllegalArgumentException" ∈ zBig := zin 56 (by decide +kernel) (by decide +kernel)
theorem zw264 : Cond.classLink RX5 270 "java/lang/IllegalStateException" ∈ zBig := zin 386 (by decide +kernel) (by decide +kernel)
theorem zw265 : Cond.initialized "java/lang/IllegalStateException" ∈ zBig := zin 57 (by decide +kernel) (by decide +kernel)
theorem zw266 : Cond.code yX4_edit cX4_edit 8 none ∈ zBig := zin 432 (by decide +kernel) (by decide +kernel)
theorem zw267 : Cond.methodLink RX5 275 yX4_edit ∈ zBig := zin 429 (by decide +kernel) (by decide +kernel)
theorem zw268 : Cond.instanceMethod yX4_edit ∈ zBig := zin 430 (by decide +kernel) (by decide +kernel)
theorem zw269 : Cond.selects RX4 yX4_edit yX4_edit ∈ zBig := zin 431 (by decide +kernel) (by decide +kernel)
theorem zw270 : Cond.code yX0_moveAsPut cX0_moveAsPut 3 none ∈ zBig := zin 443 (by decide +kernel) (by decide +kernel)
theorem zw271 : Cond.methodLink RX5 279 yX0_moveAsPut ∈ zBig := zin 440 (by decide +kernel) (by decide +kernel)
theorem zw272 : Cond.instanceMethod yX0_moveAsPut ∈ zBig := zin 441 (by decide +kernel) (by decide +kernel)
theorem zw273 : Cond.selects RX0 yX0_moveAsPut yX0_moveAsPut ∈ zBig := zin 442 (by decide +kernel) (by decide +kernel)
theorem zw274 : Cond.code yX0_moveAsCut cX0_moveAsCut 3 none ∈ zBig := zin 463 (by decide +kernel) (by decide +kernel)
theorem zw275 : Cond.methodLink RX5 282 yX0_moveAsCut ∈ zBig := zin 460 (by decide +kernel) (by decide +kernel)
theorem zw276 : Cond.instanceMethod yX0_moveAsCut ∈ zBig := zin 461 (by decide +kernel) (by decide +kernel)
theorem zw277 : Cond.selects RX0 yX0_moveAsCut yX0_moveAsCut ∈ zBig := zin 462 (by decide +kernel) (by decide +kernel)
theorem zw278 : Cond.methodLink RX5 285 yX0_isLost ∈ zBig := zin 162 (by decide +kernel) (by decide +kernel)
theorem zw279 : Cond.code yX0_size cX0_size 1 (some .int) ∈ zBig := zin 675 (by decide +kernel) (by decide +kernel)
theorem zw280 : Cond.methodLink RX5 288 yX0_size ∈ zBig := zin 672 (by decide +kernel) (by decide +kernel)
theorem zw281 : Cond.instanceMethod yX0_size ∈ zBig := zin 673 (by decide +kernel) (by decide +kernel)
theorem zw282 : Cond.selects RX0 yX0_size yX0_size ∈ zBig := zin 674 (by decide +kernel) (by decide +kernel)
theorem zw283 : Cond.code yX0_lay cX0_lay 3 none ∈ zBig := zin 185 (by decide +kernel) (by decide +kernel)
theorem zw284 : Cond.methodLink RX5 292 yX0_lay ∈ zBig := zin 182 (by decide +kernel) (by decide +kernel)
theorem zw285 : Cond.instanceMethod yX0_lay ∈ zBig := zin 183 (by decide +kernel) (by decide +kernel)
theorem zw286 : Cond.selects RX0 yX0_lay yX0_lay ∈ zBig := zin 184 (by decide +kernel) (by decide +kernel)
theorem zw287 : Cond.methodLink RX5 295 Lib.Math.min.name ∈ zBig := zin 532 (by decide +kernel) (by decide +kernel)
theorem zw288 : Cond.code yX4_hasAt cX4_hasAt 4 (some .boolean) ∈ zBig := zin 173 (by decide +kernel) (by decide +kernel)
theorem zw289 : Cond.methodLink RX5 300 yX4_hasAt ∈ zBig := zin 170 (by decide +kernel) (by decide +kernel)
theorem zw290 : Cond.instanceMethod yX4_hasAt ∈ zBig := zin 171 (by decide +kernel) (by decide +kernel)
theorem zw291 : Cond.selects RX4 yX4_hasAt yX4_hasAt ∈ zBig := zin 172 (by decide +kernel) (by decide +kernel)
theorem zw292 : Cond.code yX3_isCountedAs cX3_isCountedAs 2 (some .boolean) ∈ zBig := zin 197 (by decide +kernel) (by decide +kernel)
theorem zw293 : Cond.methodLink RX5 307 yX3_isCountedAs ∈ zBig := zin 194 (by decide +kernel) (by decide +kernel)
theorem zw294 : Cond.instanceMethod yX3_isCountedAs ∈ zBig := zin 195 (by decide +kernel) (by decide +kernel)
theorem zw295 : Cond.selects RX3 yX3_isCountedAs yX3_isCountedAs ∈ zBig := zin 196 (by decide +kernel) (by decide +kernel)
theorem zw296 : Cond.code yX5_putAmongChosen cX5_putAmongChosen 4 none ∈ zBig := zin 735 (by decide +kernel) (by decide +kernel)
theorem zw297 : Cond.methodLink RX5 310 yX5_putAmongChosen ∈ zBig := zin 732 (by decide +kernel) (by decide +kernel)
theorem zw298 : Cond.instanceMethod yX5_putAmongChosen ∈ zBig := zin 734 (by decide +kernel) (by decide +kernel)
theorem zw299 : Cond.selects RX5 yX5_putAmongChosen yX5_putAmongChosen ∈ zBig := zin 21 (by decide +kernel) (by decide +kernel)
theorem zw300 : Cond.code yX0_isAheadOf cX0_isAheadOf 2 (some .boolean) ∈ zBig := zin 739 (by decide +kernel) (by decide +kernel)
theorem zw301 : Cond.methodLink RX5 314 yX0_isAheadOf ∈ zBig := zin 736 (by decide +kernel) (by decide +kernel)
theorem zw302 : Cond.instanceMethod yX0_isAheadOf ∈ zBig := zin 737 (by decide +kernel) (by decide +kernel)
theorem zw303 : Cond.selects RX0 yX0_isAheadOf yX0_isAheadOf ∈ zBig := zin 738 (by decide +kernel) (by decide +kernel)
theorem zw304 : Cond.constantLong RX5 318 (31 : Int64) ∈ zBig := zin 291 (by decide +kernel) (by decide +kernel)
theorem zw305 : Cond.code yX5_many cX5_many 2 (some .int) ∈ zBig := zin 215 (by decide +kernel) (by decide +kernel)
theorem zw306 : Cond.methodLink RX5 320 yX5_many ∈ zBig := zin 212 (by decide +kernel) (by decide +kernel)
theorem zw307 : Cond.instanceMethod yX5_many ∈ zBig := zin 213 (by decide +kernel) (by decide +kernel)
theorem zw308 : Cond.selects RX5 yX5_many yX5_many ∈ zBig := zin 214 (by decide +kernel) (by decide +kernel)
theorem zw309 : Cond.code yX5_mix cX5_mix 4 (some .long) ∈ zBig := zin 290 (by decide +kernel) (by decide +kernel)
theorem zw310 : Cond.methodLink RX5 323 yX5_mix ∈ zBig := zin 288 (by decide +kernel) (by decide +kernel)
theorem zw311 : Cond.static yX5_mix ∈ zBig := zin 289 (by decide +kernel) (by decide +kernel)
theorem zw312 : Cond.code yX5_wouldSee cX5_wouldSee 5 (some .int) ∈ zBig := zin 300 (by decide +kernel) (by decide +kernel)
theorem zw313 : Cond.methodLink RX5 327 yX5_wouldSee ∈ zBig := zin 297 (by decide +kernel) (by decide +kernel)
theorem zw314 : Cond.instanceMethod yX5_wouldSee ∈ zBig := zin 298 (by decide +kernel) (by decide +kernel)
theorem zw315 : Cond.selects RX5 yX5_wouldSee yX5_wouldSee ∈ zBig := zin 299 (by decide +kernel) (by decide +kernel)
theorem zw316 : Cond.code yX5_over cX5_over 6 (some .int) ∈ zBig := zin 331 (by decide +kernel) (by decide +kernel)
theorem zw317 : Cond.methodLink RX5 330 yX5_over ∈ zBig := zin 328 (by decide +kernel) (by decide +kernel)
theorem zw318 : Cond.instanceMethod yX5_over ∈ zBig := zin 329 (by decide +kernel) (by decide +kernel)
theorem zw319 : Cond.selects RX5 yX5_over yX5_over ∈ zBig := zin 330 (by decide +kernel) (by decide +kernel)
theorem zw320 : Cond.code yX5_ofNote cX5_ofNote 4 (some .int) ∈ zBig := zin 347 (by decide +kernel) (by decide +kernel)
theorem zw321 : Cond.methodLink RX5 333 yX5_ofNote ∈ zBig := zin 344 (by decide +kernel) (by decide +kernel)
theorem zw322 : Cond.instanceMethod yX5_ofNote ∈ zBig := zin 345 (by decide +kernel) (by decide +kernel)
theorem zw323 : Cond.selects RX5 yX5_ofNote yX5_ofNote ∈ zBig := zin 346 (by decide +kernel) (by decide +kernel)
theorem zw324 : Cond.code yX5_wouldHeal cX5_wouldHeal 2 (some .int) ∈ zBig := zin 365 (by decide +kernel) (by decide +kernel)
theorem zw325 : Cond.methodLink RX5 336 yX5_wouldHeal ∈ zBig := zin 362 (by decide +kernel) (by decide +kernel)
theorem zw326 : Cond.instanceMethod yX5_wouldHeal ∈ zBig := zin 363 (by decide +kernel) (by decide +kernel)
theorem zw327 : Cond.selects RX5 yX5_wouldHeal yX5_wouldHeal ∈ zBig := zin 364 (by decide +kernel) (by decide +kernel)
theorem zw328 : Cond.code yX5_sees cX5_sees 3 (some .boolean) ∈ zBig := zin 369 (by decide +kernel) (by decide +kernel)
theorem zw329 : Cond.methodLink RX5 339 yX5_sees ∈ zBig := zin 366 (by decide +kernel) (by decide +kernel)
theorem zw330 : Cond.instanceMethod yX5_sees ∈ zBig := zin 367 (by decide +kernel) (by decide +kernel)
theorem zw331 : Cond.selects RX5 yX5_sees yX5_sees ∈ zBig := zin 368 (by decide +kernel) (by decide +kernel)
theorem zw332 : Cond.methodLink RX6 1 Lib.objectInit ∈ zBig := zin 777 (by decide +kernel) (by decide +kernel)
theorem zw333 : Cond.fieldLink RX6 9 "MarginaliaModel" "right" "[I" ∈ zBig := zin 782 (by decide +kernel) (by decide +kernel)
theorem zw334 : Cond.fieldLink RX6 13 "MarginaliaModel" "signOf" "[I" ∈ zBig := zin 784 (by decide +kernel) (by decide +kernel)
theorem zw335 : Cond.classLink RX6 16 "[[I" ∈ zBig := zin 778 (by decide +kernel) (by decide +kernel)
theorem zw336 : Cond.fieldLink RX6 18 "MarginaliaModel" "texts" "[[I" ∈ zBig := zin 785 (by decide +kernel) (by decide +kernel)
theorem zw337 : Cond.fieldLink RX6 21 "MarginaliaModel" "author" "[I" ∈ zBig := zin 788 (by decide +kernel) (by decide +kernel)
theorem zw338 : Cond.fieldLink RX6 24 "MarginaliaModel" "content" "[I" ∈ zBig := zin 789 (by decide +kernel) (by decide +kernel)
theorem zw339 : Cond.fieldLink RX6 27 "MarginaliaModel" "parent" "[I" ∈ zBig := zin 790 (by decide +kernel) (by decide +kernel)
theorem zw340 : Cond.fieldLink RX6 30 "MarginaliaModel" "head" "[I" ∈ zBig := zin 791 (by decide +kernel) (by decide +kernel)
theorem zw341 : Cond.fieldLink RX6 33 "MarginaliaModel" "state" "[I" ∈ zBig := zin 792 (by decide +kernel) (by decide +kernel)
theorem zw342 : Cond.fieldLink RX6 36 "MarginaliaModel" "from" "[I" ∈ zBig := zin 793 (by decide +kernel) (by decide +kernel)
theorem zw343 : Cond.fieldLink RX6 39 "MarginaliaModel" "to" "[I" ∈ zBig := zin 794 (by decide +kernel) (by decide +kernel)
theorem zw344 : Cond.fieldLink RX6 42 "MarginaliaModel" "view" "[I" ∈ zBig := zin 795 (by decide +kernel) (by decide +kernel)
theorem zw345 : Cond.fieldLink RX6 45 "MarginaliaModel" "many" "[I" ∈ zBig := zin 796 (by decide +kernel) (by decide +kernel)
theorem zw346 : Cond.fieldLink RX6 48 "MarginaliaModel" "first" "[I" ∈ zBig := zin 797 (by decide +kernel) (by decide +kernel)
theorem zw347 : Cond.arrayClass .boolean ∈ zBig := zin 850 (by decide +kernel) (by decide +kernel)
theorem zw348 : Cond.fieldLink RX6 51 "MarginaliaModel" "isSettled" "[Z" ∈ zBig := zin 798 (by decide +kernel) (by decide +kernel)
theorem zw349 : Cond.classLink RX6 55 "[I" ∈ zBig := zin 779 (by decide +kernel) (by decide +kernel)
theorem zw350 : Cond.fieldLink RX6 56 "MarginaliaModel" "quotes" "[[I" ∈ zBig := zin 799 (by decide +kernel) (by decide +kernel)
theorem zw351 : Cond.fieldLink RX6 59 "MarginaliaModel" "exported" "[I" ∈ zBig := zin 800 (by decide +kernel) (by decide +kernel)
theorem zw352 : Cond.fieldLink RX6 62 "MarginaliaModel" "order" "[I" ∈ zBig := zin 802 (by decide +kernel) (by decide +kernel)
theorem zw353 : Cond.fieldLink RX6 65 "MarginaliaModel" "thrown" "I" ∈ zBig := zin 780 (by decide +kernel) (by decide +kernel)
theorem zw354 : Cond.fieldLink RX6 69 "MarginaliaModel" "users" "I" ∈ zBig := zin 781 (by decide +kernel) (by decide +kernel)
theorem zw355 : Cond.code yX6_isIn cX6_isIn 3 (some .boolean) ∈ zBig := zin 861 (by decide +kernel) (by decide +kernel)
theorem zw356 : Cond.methodLink RX6 72 yX6_isIn ∈ zBig := zin 859 (by decide +kernel) (by decide +kernel)
theorem zw357 : Cond.static yX6_isIn ∈ zBig := zin 860 (by decide +kernel) (by decide +kernel)
theorem zw358 : Cond.initialized RX6 ∈ zBig := zin 52 (by decide +kernel) (by decide +kernel)
theorem zw359 : Cond.fieldLink RX6 76 "MarginaliaModel" "notes" "I" ∈ zBig := zin 787 (by decide +kernel) (by decide +kernel)
theorem zw360 : Cond.fieldLink RX6 79 "MarginaliaModel" "version" "I" ∈ zBig := zin 786 (by decide +kernel) (by decide +kernel)
theorem zw361 : Cond.code yX6_no cX6_no 2 (some .int) ∈ zBig := zin 865 (by decide +kernel) (by decide +kernel)
theorem zw362 : Cond.methodLink RX6 82 yX6_no ∈ zBig := zin 862 (by decide +kernel) (by decide +kernel)
theorem zw363 : Cond.instanceMethod yX6_no ∈ zBig := zin 864 (by decide +kernel) (by decide +kernel)
theorem zw364 : Cond.selects RX6 yX6_no yX6_no ∈ zBig := zin 22 (by decide +kernel) (by decide +kernel)
theorem zw365 : Cond.code yX6_isUser cX6_isUser 2 (some .boolean) ∈ zBig := zin 873 (by decide +kernel) (by decide +kernel)
theorem zw366 : Cond.methodLink RX6 86 yX6_isUser ∈ zBig := zin 870 (by decide +kernel) (by decide +kernel)
theorem zw367 : Cond.instanceMethod yX6_isUser ∈ zBig := zin 872 (by decide +kernel) (by decide +kernel)
theorem zw368 : Cond.selects RX6 yX6_isUser yX6_isUser ∈ zBig := zin 23 (by decide +kernel) (by decide +kernel)
theorem zw369 : Cond.code yX6_text cX6_text 1 (some (.array .int)) ∈ zBig := zin 881 (by decide +kernel) (by decide +kernel)
theorem zw370 : Cond.methodLink RX6 90 yX6_text ∈ zBig := zin 878 (by decide +kernel) (by decide +kernel)
theorem zw371 : Cond.instanceMethod yX6_text ∈ zBig := zin 880 (by decide +kernel) (by decide +kernel)
theorem zw372 : Cond.selects RX6 yX6_text yX6_text ∈ zBig := zin 24 (by decide +kernel) (by decide +kernel)
theorem zw373 : Cond.methodLink RX6 94 arraycopyName ∈ zBig := zin 886 (by decide +kernel) (by decide +kernel)
theorem zw374 : Cond.fieldLink RX6 100 "MarginaliaModel" "ever" "I" ∈ zBig := zin 783 (by decide +kernel) (by decide +kernel)
theorem zw375 : Cond.methodLink RX6 103 Lib.Math.min.name ∈ zBig := zin 895 (by decide +kernel) (by decide +kernel)
theorem zw376 : Cond.methodLink RX6 109 Lib.Math.max.name ∈ zBig := zin 896 (by decide +kernel) (by decide +kernel)
theorem zw377 : Cond.code yX6_put cX6_put 7 none ∈ zBig := zin 885 (by decide +kernel) (by decide +kernel)
theorem zw378 : Cond.methodLink RX6 112 yX6_put ∈ zBig := zin 882 (by decide +kernel) (by decide +kernel)
theorem zw379 : Cond.instanceMethod yX6_put ∈ zBig := zin 884 (by decide +kernel) (by decide +kernel)
theorem zw380 : Cond.selects RX6 yX6_put yX6_put ∈ zBig := zin 25 (by decide +kernel) (by decide +kernel)
theorem zw381 : Cond.code yX6_cut cX6_cut 6 none ∈ zBig := zin 894 (by decide +kernel) (by decide +kernel)
theorem zw382 : Cond.methodLink RX6 116 yX6_cut ∈ zBig := zin 891 (by decide +kernel) (by decide +kernel)
theorem zw383 : Cond.instanceMethod yX6_cut ∈ zBig := zin 893 (by decide +kernel) (by decide +kernel)
theorem zw384 : Cond.selects RX6 yX6_cut yX6_cut ∈ zBig := zin 26 (by decide +kernel) (by decide +kernel)
theorem zw385 : Cond.code yX6_ok cX6_ok 2 (some .int) ∈ zBig := zin 904 (by decide +kernel) (by decide +kernel)
theorem zw386 : Cond.methodLink RX6 120 yX6_ok ∈ zBig := zin 901 (by decide +kernel) (by decide +kernel)
theorem zw387 : Cond.instanceMethod yX6_ok ∈ zBig := zin 903 (by decide +kernel) (by decide +kernel)
theorem zw388 : Cond.selects RX6 yX6_ok yX6_ok ∈ zBig := zin 27 (by decide +kernel) (by decide +kernel)
theorem zw389 : Cond.code yX6_seesBy cX6_seesBy 4 (some .boolean) ∈ zBig := zin 944 (by decide +kernel) (by decide +kernel)
theorem zw390 : Cond.methodLink RX6 123 yX6_seesBy ∈ zBig := zin 941 (by decide +kernel) (by decide +kernel)
theorem zw391 : Cond.instanceMethod yX6_seesBy ∈ zBig := zin 943 (by decide +kernel) (by decide +kernel)
theorem zw392 : Cond.selects RX6 yX6_seesBy yX6_seesBy ∈ zBig := zin 32 (by decide +kernel) (by decide +kernel)
theorem zw393 : Cond.code yX6_seesNow cX6_seesNow 3 (some .boolean) ∈ zBig := zin 940 (by decide +kernel) (by decide +kernel)
theorem zw394 : Cond.methodLink RX6 126 yX6_seesNow ∈ zBig := zin 937 (by decide +kernel) (by decide +kernel)
theorem zw395 : Cond.instanceMethod yX6_seesNow ∈ zBig := zin 939 (by decide +kernel) (by decide +kernel)
theorem zw396 : Cond.selects RX6 yX6_seesNow yX6_seesNow ∈ zBig := zin 31 (by decide +kernel) (by decide +kernel)
theorem zw397 : Cond.code yX6_add cX6_add 4 (some .int) ∈ zBig := zin 924 (by decide +kernel) (by decide +kernel)
theorem zw398 : Cond.methodLink RX6 130 yX6_add ∈ zBig := zin 921 (by decide +kernel) (by decide +kernel)
theorem zw399 : Cond.instanceMethod yX6_add ∈ zBig := zin 923 (by decide +kernel) (by decide +kernel)
theorem zw400 : Cond.selects RX6 yX6_add yX6_add ∈ zBig := zin 28 (by decide +kernel) (by decide +kernel)
theorem zw401 : Cond.code yX6_isNote cX6_isNote 2 (some .boolean) ∈ zBig := zin 932 (by decide +kernel) (by decide +kernel)
theorem zw402 : Cond.methodLink RX6 134 yX6_isNote ∈ zBig := zin 929 (by decide +kernel) (by decide +kernel)
theorem zw403 : Cond.instanceMethod yX6_isNote ∈ zBig := zin 931 (by decide +kernel) (by decide +kernel)
theorem zw404 : Cond.selects RX6 yX6_isNote yX6_isNote ∈ zBig := zin 29 (by decide +kernel) (by decide +kernel)
theorem zw405 : Cond.code yX6_may cX6_may 4 (some .boolean) ∈ zBig := zin 936 (by decide +kernel) (by decide +kernel)
theorem zw406 : Cond.methodLink RX6 137 yX6_may ∈ zBig := zin 933 (by decide +kernel) (by decide +kernel)
theorem zw407 : Cond.instanceMethod yX6_may ∈ zBig := zin 935 (by decide +kernel) (by decide +kernel)
theorem zw408 : Cond.selects RX6 yX6_may yX6_may ∈ zBig := zin 30 (by decide +kernel) (by decide +kernel)
theorem zw409 : Cond.code yX6_isNot cX6_isNot 2 (some .boolean) ∈ zBig := zin 952 (by decide +kernel) (by decide +kernel)
theorem zw410 : Cond.methodLink RX6 140 yX6_isNot ∈ zBig := zin 949 (by decide +kernel) (by decide +kernel)
theorem zw411 : Cond.instanceMethod yX6_isNot ∈ zBig := zin 951 (by decide +kernel) (by decide +kernel)
theorem zw412 : Cond.selects RX6 yX6_isNot yX6_isNot ∈ zBig := zin 33 (by decide +kernel) (by decide +kernel)
theorem zw413 : Cond.code yX6_replies cX6_replies 4 (some .int) ∈ zBig := zin 960 (by decide +kernel) (by decide +kernel)
theorem zw414 : Cond.methodLink RX6 143 yX6_replies ∈ zBig := zin 957 (by decide +kernel) (by decide +kernel)
theorem zw415 : Cond.instanceMethod yX6_replies ∈ zBig := zin 959 (by decide +kernel) (by decide +kernel)
theorem zw416 : Cond.selects RX6 yX6_replies yX6_replies ∈ zBig := zin 34 (by decide +kernel) (by decide +kernel)
theorem zw417 : Cond.methodLink RX6 146 Lib.Math.abs.name ∈ zBig := zin 985 (by decide +kernel) (by decide +kernel)
theorem zw418 : Cond.static Lib.Math.abs.name ∈ zBig := zin 986 (by decide +kernel) (by decide +kernel)
theorem zw419 : Cond.code Lib.Math.abs.name Lib.Math.abs.code 1 (some .int) ∈ zBig := zin 987 (by decide +kernel) (by decide +kernel)
theorem zw420 : Cond.code yX6_isHead cX6_isHead 2 (some .boolean) ∈ zBig := zin 976 (by decide +kernel) (by decide +kernel)
theorem zw421 : Cond.methodLink RX6 149 yX6_isHead ∈ zBig := zin 973 (by decide +kernel) (by decide +kernel)
theorem zw422 : Cond.instanceMethod yX6_isHead ∈ zBig := zin 975 (by decide +kernel) (by decide +kernel)
theorem zw423 : Cond.selects RX6 yX6_isHead yX6_isHead ∈ zBig := zin 35 (by decide +kernel) (by decide +kernel)
theorem zw424 : Cond.code yX6_isLost cX6_isLost 2 (some .boolean) ∈ zBig := zin 980 (by decide +kernel) (by decide +kernel)
theorem zw425 : Cond.methodLink RX6 152 yX6_isLost ∈ zBig := zin 977 (by decide +kernel) (by decide +kernel)
theorem zw426 : Cond.instanceMethod yX6_isLost ∈ zBig := zin 979 (by decide +kernel) (by decide +kernel)
theorem zw427 : Cond.selects RX6 yX6_isLost yX6_isLost ∈ zBig := zin 36 (by decide +kernel) (by decide +kernel)
theorem zw428 : Cond.code yX6_found cX6_found 6 (some .int) ∈ zBig := zin 984 (by decide +kernel) (by decide +kernel)
theorem zw429 : Cond.methodLink RX6 155 yX6_found ∈ zBig := zin 981 (by decide +kernel) (by decide +kernel)
theorem zw430 : Cond.instanceMethod yX6_found ∈ zBig := zin 983 (by decide +kernel) (by decide +kernel)
theorem zw431 : Cond.selects RX6 yX6_found yX6_found ∈ zBig := zin 37 (by decide +kernel) (by decide +kernel)
theorem zw432 : Cond.code yX6_manyNow cX6_manyNow 5 (some .int) ∈ zBig := zin 995 (by decide +kernel) (by decide +kernel)
theorem zw433 : Cond.methodLink RX6 158 yX6_manyNow ∈ zBig := zin 992 (by decide +kernel) (by decide +kernel)
theorem zw434 : Cond.instanceMethod yX6_manyNow ∈ zBig := zin 994 (by decide +kernel) (by decide +kernel)
theorem zw435 : Cond.selects RX6 yX6_manyNow yX6_manyNow ∈ zBig := zin 38 (by decide +kernel) (by decide +kernel)
theorem zw436 : Cond.code yX6_contentOf cX6_contentOf 2 (some .int) ∈ zBig := zin 1011 (by decide +kernel) (by decide +kernel)
theorem zw437 : Cond.methodLink RX6 161 yX6_contentOf ∈ zBig := zin 1008 (by decide +kernel) (by decide +kernel)
theorem zw438 : Cond.instanceMethod yX6_contentOf ∈ zBig := zin 1010 (by decide +kernel) (by decide +kernel)
theorem zw439 : Cond.selects RX6 yX6_contentOf yX6_contentOf ∈ zBig := zin 40 (by decide +kernel) (by decide +kernel)
theorem zw440 : Cond.code yX6_depth cX6_depth 4 (some .int) ∈ zBig := zin 1015 (by decide +kernel) (by decide +kernel)
theorem zw441 : Cond.methodLink RX6 164 yX6_depth ∈ zBig := zin 1012 (by decide +kernel) (by decide +kernel)
theorem zw442 : Cond.instanceMethod yX6_depth ∈ zBig := zin 1014 (by decide +kernel) (by decide +kernel)
theorem zw443 : Cond.selects RX6 yX6_depth yX6_depth ∈ zBig := zin 41 (by decide +kernel) (by decide +kernel)
theorem zw444 : Cond.code yX6_ofNow cX6_ofNow 4 (some .int) ∈ zBig := zin 1007 (by decide +kernel) (by decide +kernel)
theorem zw445 : Cond.methodLink RX6 167 yX6_ofNow ∈ zBig := zin 1004 (by decide +kernel) (by decide +kernel)
theorem zw446 : Cond.instanceMethod yX6_ofNow ∈ zBig := zin 1006 (by decide +kernel) (by decide +kernel)
theorem zw447 : Cond.selects RX6 yX6_ofNow yX6_ofNow ∈ zBig := zin 39 (by decide +kernel) (by decide +kernel)
theorem zw448 : Cond.fieldLink RX6 170 "MarginaliaModel" "ordered" "I" ∈ zBig := zin 801 (by decide +kernel) (by decide +kernel)
theorem zw449 : Cond.code yX6_behind cX6_behind 4 (some .int) ∈ zBig := zin 1035 (by decide +kernel) (by decide +kernel)
theorem zw450 : Cond.methodLink RX6 173 yX6_behind ∈ zBig := zin 1032 (by decide +kernel) (by decide +kernel)
theorem zw451 : Cond.instanceMethod yX6_behind ∈ zBig := zin 1034 (by decide +kernel) (by decide +kernel)
theorem zw452 : Cond.selects RX6 yX6_behind yX6_behind ∈ zBig := zin 43 (by decide +kernel) (by decide +kernel)
theorem zw453 : Cond.code yX6_reply_ cX6_reply_ 4 (some .int) ∈ zBig := zin 1039 (by decide +kernel) (by decide +kernel)
theorem zw454 : Cond.methodLink RX6 176 yX6_reply_ ∈ zBig := zin 1036 (by decide +kernel) (by decide +kernel)
theorem zw455 : Cond.instanceMethod yX6_reply_ ∈ zBig := zin 1038 (by decide +kernel) (by decide +kernel)
theorem zw456 : Cond.selects RX6 yX6_reply_ yX6_reply_ ∈ zBig := zin 44 (by decide +kernel) (by decide +kernel)
theorem zw457 : Cond.code yX6_tellOrder cX6_tellOrder 3 none ∈ zBig := zin 1031 (by decide +kernel) (by decide +kernel)
theorem zw458 : Cond.methodLink RX6 179 yX6_tellOrder ∈ zBig := zin 1028 (by decide +kernel) (by decide +kernel)
theorem zw459 : Cond.instanceMethod yX6_tellOrder ∈ zBig := zin 1030 (by decide +kernel) (by decide +kernel)
theorem zw460 : Cond.selects RX6 yX6_tellOrder yX6_tellOrder ∈ zBig := zin 42 (by decide +kernel) (by decide +kernel)
theorem zw461 : Cond.code yX6_overNow cX6_overNow 5 (some .int) ∈ zBig := zin 1047 (by decide +kernel) (by decide +kernel)
theorem zw462 : Cond.methodLink RX6 183 yX6_overNow ∈ zBig := zin 1044 (by decide +kernel) (by decide +kernel)
theorem zw463 : Cond.instanceMethod yX6_overNow ∈ zBig := zin 1046 (by decide +kernel) (by decide +kernel)
theorem zw464 : Cond.selects RX6 yX6_overNow yX6_overNow ∈ zBig := zin 45 (by decide +kernel) (by decide +kernel)
theorem zw465 : Cond.code yX6_isAhead cX6_isAhead 3 (some .boolean) ∈ zBig := zin 1055 (by decide +kernel) (by decide +kernel)
theorem zw466 : Cond.methodLink RX6 186 yX6_isAhead ∈ zBig := zin 1052 (by decide +kernel) (by decide +kernel)
theorem zw467 : Cond.instanceMethod yX6_isAhead ∈ zBig := zin 1054 (by decide +kernel) (by decide +kernel)
theorem zw468 : Cond.selects RX6 yX6_isAhead yX6_isAhead ∈ zBig := zin 46 (by decide +kernel) (by decide +kernel)
theorem zw469 : Cond.code yX6_seen cX6_seen 5 (some .int) ∈ zBig := zin 1079 (by decide +kernel) (by decide +kernel)
theorem zw470 : Cond.methodLink RX6 189 yX6_seen ∈ zBig := zin 1076 (by decide +kernel) (by decide +kernel)
theorem zw471 : Cond.instanceMethod yX6_seen ∈ zBig := zin 1078 (by decide +kernel) (by decide +kernel)
theorem zw472 : Cond.selects RX6 yX6_seen yX6_seen ∈ zBig := zin 47 (by decide +kernel) (by decide +kernel)
theorem zw473 : Cond.constantLong RX6 192 (58083 : Int64) ∈ zBig := zin 1084 (by decide +kernel) (by decide +kernel)
theorem zw474 : Cond.constantLong RX6 194 (31 : Int64) ∈ zBig := zin 1085 (by decide +kernel) (by decide +kernel)
theorem zw475 : Cond.classLink RL 13 "java/lang/IllegalArgumentException" ∈ zBig := zin 377 (by decide +kernel) (by decide +kernel)
theorem zw476 : Cond.classLink RL 15 "java/lang/IllegalStateException" ∈ zBig := zin 378 (by decide +kernel) (by decide +kernel)
theorem zw477 : Cond.code yX5_user cX5_user 2 (some .int) ∈ zBig := zin 382 (by decide +kernel) (by decide +kernel)
theorem zw478 : Cond.methodLink RL 7 yX5_user ∈ zBig := zin 379 (by decide +kernel) (by decide +kernel)
theorem zw479 : Cond.instanceMethod yX5_user ∈ zBig := zin 380 (by decide +kernel) (by decide +kernel)
theorem zw480 : Cond.selects RX5 yX5_user yX5_user ∈ zBig := zin 381 (by decide +kernel) (by decide +kernel)
theorem zw481 : Cond.classLink RL 21 "java/lang/IndexOutOfBoundsException" ∈ zBig := zin 405 (by decide +kernel) (by decide +kernel)
theorem zw482 : Cond.code yX5_setRight cX5_setRight 5 (some .int) ∈ zBig := zin 409 (by decide +kernel) (by decide +kernel)
theorem zw483 : Cond.methodLink RL 17 yX5_setRight ∈ zBig := zin 406 (by decide +kernel) (by decide +kernel)
theorem zw484 : Cond.instanceMethod yX5_setRight ∈ zBig := zin 407 (by decide +kernel) (by decide +kernel)
theorem zw485 : Cond.selects RX5 yX5_setRight yX5_setRight ∈ zBig := zin 408 (by decide +kernel) (by decide +kernel)
theorem zw486 : Cond.code yX5_insert cX5_insert 5 (some .int) ∈ zBig := zin 416 (by decide +kernel) (by decide +kernel)
theorem zw487 : Cond.methodLink RL 23 yX5_insert ∈ zBig := zin 413 (by decide +kernel) (by decide +kernel)
theorem zw488 : Cond.instanceMethod yX5_insert ∈ zBig := zin 414 (by decide +kernel) (by decide +kernel)
theorem zw489 : Cond.selects RX5 yX5_insert yX5_insert ∈ zBig := zin 415 (by decide +kernel) (by decide +kernel)
theorem zw490 : Cond.code yX5_delete cX5_delete 4 (some .int) ∈ zBig := zin 450 (by decide +kernel) (by decide +kernel)
theorem zw491 : Cond.methodLink RL 27 yX5_delete ∈ zBig := zin 447 (by decide +kernel) (by decide +kernel)
theorem zw492 : Cond.instanceMethod yX5_delete ∈ zBig := zin 448 (by decide +kernel) (by decide +kernel)
theorem zw493 : Cond.selects RX5 yX5_delete yX5_delete ∈ zBig := zin 449 (by decide +kernel) (by decide +kernel)
theorem zw494 : Cond.code yX5_sign cX5_sign 3 (some .int) ∈ zBig := zin 479 (by decide +kernel) (by decide +kernel)
theorem zw495 : Cond.methodLink RL 30 yX5_sign ∈ zBig := zin 476 (by decide +kernel) (by decide +kernel)
theorem zw496 : Cond.instanceMethod yX5_sign ∈ zBig := zin 477 (by decide +kernel) (by decide +kernel)
theorem zw497 : Cond.selects RX5 yX5_sign yX5_sign ∈ zBig := zin 478 (by decide +kernel) (by decide +kernel)
theorem zw498 : Cond.code yX5_now cX5_now 3 (some .int) ∈ zBig := zin 494 (by decide +kernel) (by decide +kernel)
theorem zw499 : Cond.methodLink RL 34 yX5_now ∈ zBig := zin 491 (by decide +kernel) (by decide +kernel)
theorem zw500 : Cond.instanceMethod yX5_now ∈ zBig := zin 492 (by decide +kernel) (by decide +kernel)
theorem zw501 : Cond.selects RX5 yX5_now yX5_now ∈ zBig := zin 493 (by decide +kernel) (by decide +kernel)
theorem zw502 : Cond.code yX5_note cX5_note 7 (some .int) ∈ zBig := zin 505 (by decide +kernel) (by decide +kernel)
theorem zw503 : Cond.methodLink RL 37 yX5_note ∈ zBig := zin 502 (by decide +kernel) (by decide +kernel)
theorem zw504 : Cond.instanceMethod yX5_note ∈ zBig := zin 503 (by decide +kernel) (by decide +kernel)
theorem zw505 : Cond.selects RX5 yX5_note yX5_note ∈ zBig := zin 504 (by decide +kernel) (by decide +kernel)
theorem zw506 : Cond.code yX5_reply cX5_reply 6 (some .int) ∈ zBig := zin 631 (by decide +kernel) (by decide +kernel)
theorem zw507 : Cond.methodLink RL 41 yX5_reply ∈ zBig := zin 628 (by decide +kernel) (by decide +kernel)
theorem zw508 : Cond.instanceMethod yX5_reply ∈ zBig := zin 629 (by decide +kernel) (by decide +kernel)
theorem zw509 : Cond.selects RX5 yX5_reply yX5_reply ∈ zBig := zin 630 (by decide +kernel) (by decide +kernel)
theorem zw510 : Cond.code yX5_settle cX5_settle 7 (some .boolean) ∈ zBig := zin 642 (by decide +kernel) (by decide +kernel)
theorem zw511 : Cond.methodLink RL 44 yX5_settle ∈ zBig := zin 639 (by decide +kernel) (by decide +kernel)
theorem zw512 : Cond.instanceMethod yX5_settle ∈ zBig := zin 640 (by decide +kernel) (by decide +kernel)
theorem zw513 : Cond.selects RX5 yX5_settle yX5_settle ∈ zBig := zin 641 (by decide +kernel) (by decide +kernel)
theorem zw514 : Cond.code yX5_remove cX5_remove 4 (some .int) ∈ zBig := zin 649 (by decide +kernel) (by decide +kernel)
theorem zw515 : Cond.methodLink RL 48 yX5_remove ∈ zBig := zin 646 (by decide +kernel) (by decide +kernel)
theorem zw516 : Cond.instanceMethod yX5_remove ∈ zBig := zin 647 (by decide +kernel) (by decide +kernel)
theorem zw517 : Cond.selects RX5 yX5_remove yX5_remove ∈ zBig := zin 648 (by decide +kernel) (by decide +kernel)
theorem zw518 : Cond.code yX5_propose cX5_propose 6 (some .int) ∈ zBig := zin 660 (by decide +kernel) (by decide +kernel)
theorem zw519 : Cond.methodLink RL 51 yX5_propose ∈ zBig := zin 657 (by decide +kernel) (by decide +kernel)
theorem zw520 : Cond.instanceMethod yX5_propose ∈ zBig := zin 658 (by decide +kernel) (by decide +kernel)
theorem zw521 : Cond.selects RX5 yX5_propose yX5_propose ∈ zBig := zin 659 (by decide +kernel) (by decide +kernel)
theorem zw522 : Cond.code yX5_take cX5_take 4 (some .int) ∈ zBig := zin 667 (by decide +kernel) (by decide +kernel)
theorem zw523 : Cond.methodLink RL 54 yX5_take ∈ zBig := zin 664 (by decide +kernel) (by decide +kernel)
theorem zw524 : Cond.instanceMethod yX5_take ∈ zBig := zin 665 (by decide +kernel) (by decide +kernel)
theorem zw525 : Cond.selects RX5 yX5_take yX5_take ∈ zBig := zin 666 (by decide +kernel) (by decide +kernel)
theorem zw526 : Cond.methodLink RL 57 yX5_many ∈ zBig := zin 683 (by decide +kernel) (by decide +kernel)
theorem zw527 : Cond.code yX5_right cX5_right 2 (some .int) ∈ zBig := zin 690 (by decide +kernel) (by decide +kernel)
theorem zw528 : Cond.methodLink RL 60 yX5_right ∈ zBig := zin 687 (by decide +kernel) (by decide +kernel)
theorem zw529 : Cond.instanceMethod yX5_right ∈ zBig := zin 688 (by decide +kernel) (by decide +kernel)
theorem zw530 : Cond.selects RX5 yX5_right yX5_right ∈ zBig := zin 689 (by decide +kernel) (by decide +kernel)
theorem zw531 : Cond.methodLink RL 63 yX5_ofNote ∈ zBig := zin 694 (by decide +kernel) (by decide +kernel)
theorem zw532 : Cond.code yX5_quote cX5_quote 4 (some .int) ∈ zBig := zin 701 (by decide +kernel) (by decide +kernel)
theorem zw533 : Cond.methodLink RL 66 yX5_quote ∈ zBig := zin 698 (by decide +kernel) (by decide +kernel)
theorem zw534 : Cond.instanceMethod yX5_quote ∈ zBig := zin 699 (by decide +kernel) (by decide +kernel)
theorem zw535 : Cond.selects RX5 yX5_quote yX5_quote ∈ zBig := zin 700 (by decide +kernel) (by decide +kernel)
theorem zw536 : Cond.methodLink RL 69 yX5_sees ∈ zBig := zin 705 (by decide +kernel) (by decide +kernel)
theorem zw537 : Cond.code yX5_thread cX5_thread 5 (some .int) ∈ zBig := zin 712 (by decide +kernel) (by decide +kernel)
theorem zw538 : Cond.methodLink RL 73 yX5_thread ∈ zBig := zin 709 (by decide +kernel) (by decide +kernel)
theorem zw539 : Cond.instanceMethod yX5_thread ∈ zBig := zin 710 (by decide +kernel) (by decide +kernel)
theorem zw540 : Cond.selects RX5 yX5_thread yX5_thread ∈ zBig := zin 711 (by decide +kernel) (by decide +kernel)
theorem zw541 : Cond.methodLink RL 76 yX5_over ∈ zBig := zin 720 (by decide +kernel) (by decide +kernel)
theorem zw542 : Cond.code yX5_export cX5_export 5 (some .int) ∈ zBig := zin 727 (by decide +kernel) (by decide +kernel)
theorem zw543 : Cond.methodLink RL 79 yX5_export ∈ zBig := zin 724 (by decide +kernel) (by decide +kernel)
theorem zw544 : Cond.instanceMethod yX5_export ∈ zBig := zin 725 (by decide +kernel) (by decide +kernel)
theorem zw545 : Cond.selects RX5 yX5_export yX5_export ∈ zBig := zin 726 (by decide +kernel) (by decide +kernel)
theorem zw546 : Cond.code yX5_exported cX5_exported 3 (some .int) ∈ zBig := zin 751 (by decide +kernel) (by decide +kernel)
theorem zw547 : Cond.methodLink RL 83 yX5_exported ∈ zBig := zin 748 (by decide +kernel) (by decide +kernel)
theorem zw548 : Cond.instanceMethod yX5_exported ∈ zBig := zin 749 (by decide +kernel) (by decide +kernel)
theorem zw549 : Cond.selects RX5 yX5_exported yX5_exported ∈ zBig := zin 750 (by decide +kernel) (by decide +kernel)
theorem zw550 : Cond.code yX5_lostBy cX5_lostBy 5 (some .int) ∈ zBig := zin 758 (by decide +kernel) (by decide +kernel)
theorem zw551 : Cond.methodLink RL 86 yX5_lostBy ∈ zBig := zin 755 (by decide +kernel) (by decide +kernel)
theorem zw552 : Cond.instanceMethod yX5_lostBy ∈ zBig := zin 756 (by decide +kernel) (by decide +kernel)
theorem zw553 : Cond.selects RX5 yX5_lostBy yX5_lostBy ∈ zBig := zin 757 (by decide +kernel) (by decide +kernel)
theorem zw554 : Cond.methodLink RL 89 yX5_wouldHeal ∈ zBig := zin 767 (by decide +kernel) (by decide +kernel)
theorem zw555 : Cond.methodLink RL 92 yX5_wouldSee ∈ zBig := zin 771 (by decide +kernel) (by decide +kernel)
theorem zw556 : Cond.classLink RL 8 RX5 ∈ zBig := zin 64 (by decide +kernel) (by decide +kernel)
theorem zw557 : Cond.instantiable RX5 7 ∈ zBig := zin 65 (by decide +kernel) (by decide +kernel)
theorem zw558 : Cond.code yX5_init cX5_init 1 none ∈ zBig := zin 68 (by decide +kernel) (by decide +kernel)
theorem zw559 : Cond.methodLink RL 95 yX5_init ∈ zBig := zin 66 (by decide +kernel) (by decide +kernel)
theorem zw560 : Cond.instanceMethod yX5_init ∈ zBig := zin 67 (by decide +kernel) (by decide +kernel)
theorem zw561 : Cond.classLink RL 96 RX6 ∈ zBig := zin 772 (by decide +kernel) (by decide +kernel)
theorem zw562 : Cond.instantiable RX6 23 ∈ zBig := zin 773 (by decide +kernel) (by decide +kernel)
theorem zw563 : Cond.code yX6_init cX6_init 1 none ∈ zBig := zin 776 (by decide +kernel) (by decide +kernel)
theorem zw564 : Cond.methodLink RL 98 yX6_init ∈ zBig := zin 774 (by decide +kernel) (by decide +kernel)
theorem zw565 : Cond.instanceMethod yX6_init ∈ zBig := zin 775 (by decide +kernel) (by decide +kernel)
theorem zw566 : Cond.arrayClass .long ∈ zBig := zin 1086 (by decide +kernel) (by decide +kernel)
theorem zw567 : Cond.codeWith yL_user cL_user 4 (some .int) [(0, 9, 12, 13), (0, 9, 15, 15)] ∈ zBig := zin 376 (by decide +kernel) (by decide +kernel)
theorem zw568 : Cond.methodLink RL 99 yL_user ∈ zBig := zin 374 (by decide +kernel) (by decide +kernel)
theorem zw569 : Cond.static yL_user ∈ zBig := zin 375 (by decide +kernel) (by decide +kernel)
theorem zw570 : Cond.initialized RL ∈ zBig := zin 48 (by decide +kernel) (by decide +kernel)
theorem zw571 : Cond.code yX6_user cX6_user 2 (some .int) ∈ zBig := zin 858 (by decide +kernel) (by decide +kernel)
theorem zw572 : Cond.methodLink RL 104 yX6_user ∈ zBig := zin 855 (by decide +kernel) (by decide +kernel)
theorem zw573 : Cond.instanceMethod yX6_user ∈ zBig := zin 856 (by decide +kernel) (by decide +kernel)
theorem zw574 : Cond.selects RX6 yX6_user yX6_user ∈ zBig := zin 857 (by decide +kernel) (by decide +kernel)
theorem zw575 : Cond.code yX6_thrown cX6_thrown 1 (some .int) ∈ zBig := zin 854 (by decide +kernel) (by decide +kernel)
theorem zw576 : Cond.methodLink RL 105 yX6_thrown ∈ zBig := zin 851 (by decide +kernel) (by decide +kernel)
theorem zw577 : Cond.instanceMethod yX6_thrown ∈ zBig := zin 852 (by decide +kernel) (by decide +kernel)
theorem zw578 : Cond.selects RX6 yX6_thrown yX6_thrown ∈ zBig := zin 853 (by decide +kernel) (by decide +kernel)
theorem zw579 : Cond.codeWith yL_setRight cL_setRight 6 (some .int) [(0, 12, 15, 21), (0, 12, 19, 13), (0, 12, 23, 15)] ∈ zBig := zin 404 (by decide +kernel) (by decide +kernel)
theorem zw580 : Cond.methodLink RL 109 yL_setRight ∈ zBig := zin 402 (by decide +kernel) (by decide +kernel)
theorem zw581 : Cond.static yL_setRight ∈ zBig := zin 403 (by decide +kernel) (by decide +kernel)
theorem zw582 : Cond.code yX6_setRight cX6_setRight 5 (some .int) ∈ zBig := zin 869 (by decide +kernel) (by decide +kernel)
theorem zw583 : Cond.methodLink RL 112 yX6_setRight ∈ zBig := zin 866 (by decide +kernel) (by decide +kernel)
theorem zw584 : Cond.instanceMethod yX6_setRight ∈ zBig := zin 867 (by decide +kernel) (by decide +kernel)
theorem zw585 : Cond.selects RX6 yX6_setRight yX6_setRight ∈ zBig := zin 868 (by decide +kernel) (by decide +kernel)
theorem zw586 : Cond.codeWith yL_insert cL_insert 7 (some .int) [(0, 14, 17, 21), (0, 14, 21, 13), (0, 14, 25, 15)] ∈ zBig := zin 412 (by decide +kernel) (by decide +kernel)
theorem zw587 : Cond.methodLink RL 113 yL_insert ∈ zBig := zin 410 (by decide +kernel) (by decide +kernel)
theorem zw588 : Cond.static yL_insert ∈ zBig := zin 411 (by decide +kernel) (by decide +kernel)
theorem zw589 : Cond.code yX6_insert cX6_insert 5 (some .int) ∈ zBig := zin 877 (by decide +kernel) (by decide +kernel)
theorem zw590 : Cond.methodLink RL 116 yX6_insert ∈ zBig := zin 874 (by decide +kernel) (by decide +kernel)
theorem zw591 : Cond.instanceMethod yX6_insert ∈ zBig := zin 875 (by decide +kernel) (by decide +kernel)
theorem zw592 : Cond.selects RX6 yX6_insert yX6_insert ∈ zBig := zin 876 (by decide +kernel) (by decide +kernel)
theorem zw593 : Cond.codeWith yL_delete cL_delete 6 (some .int) [(0, 12, 15, 21), (0, 12, 19, 13), (0, 12, 23, 15)] ∈ zBig := zin 446 (by decide +kernel) (by decide +kernel)
theorem zw594 : Cond.methodLink RL 117 yL_delete ∈ zBig := zin 444 (by decide +kernel) (by decide +kernel)
theorem zw595 : Cond.static yL_delete ∈ zBig := zin 445 (by decide +kernel) (by decide +kernel)
theorem zw596 : Cond.code yX6_delete cX6_delete 4 (some .int) ∈ zBig := zin 890 (by decide +kernel) (by decide +kernel)
theorem zw597 : Cond.methodLink RL 119 yX6_delete ∈ zBig := zin 887 (by decide +kernel) (by decide +kernel)
theorem zw598 : Cond.instanceMethod yX6_delete ∈ zBig := zin 888 (by decide +kernel) (by decide +kernel)
theorem zw599 : Cond.selects RX6 yX6_delete yX6_delete ∈ zBig := zin 889 (by decide +kernel) (by decide +kernel)
theorem zw600 : Cond.code yX5_length cX5_length 1 (some .int) ∈ zBig := zin 141 (by decide +kernel) (by decide +kernel)
theorem zw601 : Cond.methodLink RL 120 yX5_length ∈ zBig := zin 138 (by decide +kernel) (by decide +kernel)
theorem zw602 : Cond.instanceMethod yX5_length ∈ zBig := zin 139 (by decide +kernel) (by decide +kernel)
theorem zw603 : Cond.selects RX5 yX5_length yX5_length ∈ zBig := zin 140 (by decide +kernel) (by decide +kernel)
theorem zw604 : Cond.code yX6_length cX6_length 1 (some .int) ∈ zBig := zin 900 (by decide +kernel) (by decide +kernel)
theorem zw605 : Cond.methodLink RL 123 yX6_length ∈ zBig := zin 897 (by decide +kernel) (by decide +kernel)
theorem zw606 : Cond.instanceMethod yX6_length ∈ zBig := zin 898 (by decide +kernel) (by decide +kernel)
theorem zw607 : Cond.selects RX6 yX6_length yX6_length ∈ zBig := zin 899 (by decide +kernel) (by decide +kernel)
theorem zw608 : Cond.codeWith yL_sign cL_sign 5 (some .int) [(0, 10, 13, 21)] ∈ zBig := zin 475 (by decide +kernel) (by decide +kernel)
theorem zw609 : Cond.methodLink RL 124 yL_sign ∈ zBig := zin 473 (by decide +kernel) (by decide +kernel)
theorem zw610 : Cond.static yL_sign ∈ zBig := zin 474 (by decide +kernel) (by decide +kernel)
theorem zw611 : Cond.code yX6_sign cX6_sign 3 (some .int) ∈ zBig := zin 908 (by decide +kernel) (by decide +kernel)
theorem zw612 : Cond.methodLink RL 127 yX6_sign ∈ zBig := zin 905 (by decide +kernel) (by decide +kernel)
theorem zw613 : Cond.instanceMethod yX6_sign ∈ zBig := zin 906 (by decide +kernel) (by decide +kernel)
theorem zw614 : Cond.selects RX6 yX6_sign yX6_sign ∈ zBig := zin 907 (by decide +kernel) (by decide +kernel)
theorem zw615 : Cond.codeWith yL_now cL_now 5 (some .int) [(0, 10, 13, 21)] ∈ zBig := zin 490 (by decide +kernel) (by decide +kernel)
theorem zw616 : Cond.methodLink RL 128 yL_now ∈ zBig := zin 488 (by decide +kernel) (by decide +kernel)
theorem zw617 : Cond.static yL_now ∈ zBig := zin 489 (by decide +kernel) (by decide +kernel)
theorem zw618 : Cond.code yX6_now cX6_now 4 (some .int) ∈ zBig := zin 912 (by decide +kernel) (by decide +kernel)
theorem zw619 : Cond.methodLink RL 130 yX6_now ∈ zBig := zin 909 (by decide +kernel) (by decide +kernel)
theorem zw620 : Cond.instanceMethod yX6_now ∈ zBig := zin 910 (by decide +kernel) (by decide +kernel)
theorem zw621 : Cond.selects RX6 yX6_now yX6_now ∈ zBig := zin 911 (by decide +kernel) (by decide +kernel)
theorem zw622 : Cond.code yX5_version cX5_version 1 (some .int) ∈ zBig := zin 149 (by decide +kernel) (by decide +kernel)
theorem zw623 : Cond.methodLink RL 131 yX5_version ∈ zBig := zin 146 (by decide +kernel) (by decide +kernel)
theorem zw624 : Cond.instanceMethod yX5_version ∈ zBig := zin 147 (by decide +kernel) (by decide +kernel)
theorem zw625 : Cond.selects RX5 yX5_version yX5_version ∈ zBig := zin 148 (by decide +kernel) (by decide +kernel)
theorem zw626 : Cond.code yX6_version cX6_version 1 (some .int) ∈ zBig := zin 916 (by decide +kernel) (by decide +kernel)
theorem zw627 : Cond.methodLink RL 134 yX6_version ∈ zBig := zin 913 (by decide +kernel) (by decide +kernel)
theorem zw628 : Cond.instanceMethod yX6_version ∈ zBig := zin 914 (by decide +kernel) (by decide +kernel)
theorem zw629 : Cond.selects RX6 yX6_version yX6_version ∈ zBig := zin 915 (by decide +kernel) (by decide +kernel)
theorem zw630 : Cond.codeWith yL_note cL_note 8 (some .int) [(0, 16, 19, 21), (0, 16, 23, 13), (0, 16, 27, 15)] ∈ zBig := zin 501 (by decide +kernel) (by decide +kernel)
theorem zw631 : Cond.methodLink RL 135 yL_note ∈ zBig := zin 499 (by decide +kernel) (by decide +kernel)
theorem zw632 : Cond.static yL_note ∈ zBig := zin 500 (by decide +kernel) (by decide +kernel)
theorem zw633 : Cond.code yX6_note cX6_note 7 (some .int) ∈ zBig := zin 920 (by decide +kernel) (by decide +kernel)
theorem zw634 : Cond.methodLink RL 138 yX6_note ∈ zBig := zin 917 (by decide +kernel) (by decide +kernel)
theorem zw635 : Cond.instanceMethod yX6_note ∈ zBig := zin 918 (by decide +kernel) (by decide +kernel)
theorem zw636 : Cond.selects RX6 yX6_note yX6_note ∈ zBig := zin 919 (by decide +kernel) (by decide +kernel)
theorem zw637 : Cond.codeWith yL_reply cL_reply 6 (some .int) [(0, 12, 15, 21), (0, 12, 19, 13), (0, 12, 23, 15)] ∈ zBig := zin 627 (by decide +kernel) (by decide +kernel)
theorem zw638 : Cond.methodLink RL 139 yL_reply ∈ zBig := zin 625 (by decide +kernel) (by decide +kernel)
theorem zw639 : Cond.static yL_reply ∈ zBig := zin 626 (by decide +kernel) (by decide +kernel)
theorem zw640 : Cond.code yX6_reply cX6_reply 4 (some .int) ∈ zBig := zin 928 (by decide +kernel) (by decide +kernel)
theorem zw641 : Cond.methodLink RL 141 yX6_reply ∈ zBig := zin 925 (by decide +kernel) (by decide +kernel)
theorem zw642 : Cond.instanceMethod yX6_reply ∈ zBig := zin 926 (by decide +kernel) (by decide +kernel)
theorem zw643 : Cond.selects RX6 yX6_reply yX6_reply ∈ zBig := zin 927 (by decide +kernel) (by decide +kernel)
theorem zw644 : Cond.codeWith yL_settle cL_settle 6 (some .int) [(0, 19, 22, 21), (0, 19, 26, 15)] ∈ zBig := zin 638 (by decide +kernel) (by decide +kernel)
theorem zw645 : Cond.methodLink RL 142 yL_settle ∈ zBig := zin 636 (by decide +kernel) (by decide +kernel)
theorem zw646 : Cond.static yL_settle ∈ zBig := zin 637 (by decide +kernel) (by decide +kernel)
theorem zw647 : Cond.code yX6_settle cX6_settle 5 (some .boolean) ∈ zBig := zin 948 (by decide +kernel) (by decide +kernel)
theorem zw648 : Cond.methodLink RL 145 yX6_settle ∈ zBig := zin 945 (by decide +kernel) (by decide +kernel)
theorem zw649 : Cond.instanceMethod yX6_settle ∈ zBig := zin 946 (by decide +kernel) (by decide +kernel)
theorem zw650 : Cond.selects RX6 yX6_settle yX6_settle ∈ zBig := zin 947 (by decide +kernel) (by decide +kernel)
theorem zw651 : Cond.codeWith yL_remove cL_remove 5 (some .int) [(0, 10, 13, 21), (0, 10, 17, 15)] ∈ zBig := zin 645 (by decide +kernel) (by decide +kernel)
theorem zw652 : Cond.methodLink RL 146 yL_remove ∈ zBig := zin 643 (by decide +kernel) (by decide +kernel)
theorem zw653 : Cond.static yL_remove ∈ zBig := zin 644 (by decide +kernel) (by decide +kernel)
theorem zw654 : Cond.code yX6_remove cX6_remove 5 (some .int) ∈ zBig := zin 956 (by decide +kernel) (by decide +kernel)
theorem zw655 : Cond.methodLink RL 148 yX6_remove ∈ zBig := zin 953 (by decide +kernel) (by decide +kernel)
theorem zw656 : Cond.instanceMethod yX6_remove ∈ zBig := zin 954 (by decide +kernel) (by decide +kernel)
theorem zw657 : Cond.selects RX6 yX6_remove yX6_remove ∈ zBig := zin 955 (by decide +kernel) (by decide +kernel)
theorem zw658 : Cond.codeWith yL_propose cL_propose 7 (some .int) [(0, 14, 17, 21), (0, 14, 21, 13), (0, 14, 25, 15)] ∈ zBig := zin 656 (by decide +kernel) (by decide +kernel)
theorem zw659 : Cond.methodLink RL 149 yL_propose ∈ zBig := zin 654 (by decide +kernel) (by decide +kernel)
theorem zw660 : Cond.static yL_propose ∈ zBig := zin 655 (by decide +kernel) (by decide +kernel)
theorem zw661 : Cond.code yX6_propose cX6_propose 5 (some .int) ∈ zBig := zin 964 (by decide +kernel) (by decide +kernel)
theorem zw662 : Cond.methodLink RL 151 yX6_propose ∈ zBig := zin 961 (by decide +kernel) (by decide +kernel)
theorem zw663 : Cond.instanceMethod yX6_propose ∈ zBig := zin 962 (by decide +kernel) (by decide +kernel)
theorem zw664 : Cond.selects RX6 yX6_propose yX6_propose ∈ zBig := zin 963 (by decide +kernel) (by decide +kernel)
theorem zw665 : Cond.codeWith yL_take cL_take 5 (some .int) [(0, 10, 13, 21), (0, 10, 17, 13), (0, 10, 21, 15)] ∈ zBig := zin 663 (by decide +kernel) (by decide +kernel)
theorem zw666 : Cond.methodLink RL 152 yL_take ∈ zBig := zin 661 (by decide +kernel) (by decide +kernel)
theorem zw667 : Cond.static yL_take ∈ zBig := zin 662 (by decide +kernel) (by decide +kernel)
theorem zw668 : Cond.code yX6_take cX6_take 6 (some .int) ∈ zBig := zin 968 (by decide +kernel) (by decide +kernel)
theorem zw669 : Cond.methodLink RL 154 yX6_take ∈ zBig := zin 965 (by decide +kernel) (by decide +kernel)
theorem zw670 : Cond.instanceMethod yX6_take ∈ zBig := zin 966 (by decide +kernel) (by decide +kernel)
theorem zw671 : Cond.selects RX6 yX6_take yX6_take ∈ zBig := zin 967 (by decide +kernel) (by decide +kernel)
theorem zw672 : Cond.code yX5_heal cX5_heal 3 (some .int) ∈ zBig := zin 153 (by decide +kernel) (by decide +kernel)
theorem zw673 : Cond.methodLink RL 155 yX5_heal ∈ zBig := zin 150 (by decide +kernel) (by decide +kernel)
theorem zw674 : Cond.instanceMethod yX5_heal ∈ zBig := zin 151 (by decide +kernel) (by decide +kernel)
theorem zw675 : Cond.selects RX5 yX5_heal yX5_heal ∈ zBig := zin 152 (by decide +kernel) (by decide +kernel)
theorem zw676 : Cond.code yX6_heal cX6_heal 3 (some .int) ∈ zBig := zin 972 (by decide +kernel) (by decide +kernel)
theorem zw677 : Cond.methodLink RL 158 yX6_heal ∈ zBig := zin 969 (by decide +kernel) (by decide +kernel)
theorem zw678 : Cond.instanceMethod yX6_heal ∈ zBig := zin 970 (by decide +kernel) (by decide +kernel)
theorem zw679 : Cond.selects RX6 yX6_heal yX6_heal ∈ zBig := zin 971 (by decide +kernel) (by decide +kernel)
theorem zw680 : Cond.codeWith yL_many cL_many 4 (some .int) [(0, 9, 12, 13)] ∈ zBig := zin 682 (by decide +kernel) (by decide +kernel)
theorem zw681 : Cond.methodLink RL 159 yL_many ∈ zBig := zin 680 (by decide +kernel) (by decide +kernel)
theorem zw682 : Cond.static yL_many ∈ zBig := zin 681 (by decide +kernel) (by decide +kernel)
theorem zw683 : Cond.code yX6_many cX6_many 2 (some .int) ∈ zBig := zin 991 (by decide +kernel) (by decide +kernel)
theorem zw684 : Cond.methodLink RL 161 yX6_many ∈ zBig := zin 988 (by decide +kernel) (by decide +kernel)
theorem zw685 : Cond.instanceMethod yX6_many ∈ zBig := zin 989 (by decide +kernel) (by decide +kernel)
theorem zw686 : Cond.selects RX6 yX6_many yX6_many ∈ zBig := zin 990 (by decide +kernel) (by decide +kernel)
theorem zw687 : Cond.codeWith yL_right cL_right 4 (some .int) [(0, 9, 12, 21)] ∈ zBig := zin 686 (by decide +kernel) (by decide +kernel)
theorem zw688 : Cond.methodLink RL 162 yL_right ∈ zBig := zin 684 (by decide +kernel) (by decide +kernel)
theorem zw689 : Cond.static yL_right ∈ zBig := zin 685 (by decide +kernel) (by decide +kernel)
theorem zw690 : Cond.code yX6_right cX6_right 2 (some .int) ∈ zBig := zin 999 (by decide +kernel) (by decide +kernel)
theorem zw691 : Cond.methodLink RL 164 yX6_right ∈ zBig := zin 996 (by decide +kernel) (by decide +kernel)
theorem zw692 : Cond.instanceMethod yX6_right ∈ zBig := zin 997 (by decide +kernel) (by decide +kernel)
theorem zw693 : Cond.selects RX6 yX6_right yX6_right ∈ zBig := zin 998 (by decide +kernel) (by decide +kernel)
theorem zw694 : Cond.codeWith yL_ofNote cL_ofNote 5 (some .int) [(0, 10, 13, 21), (0, 10, 17, 13)] ∈ zBig := zin 693 (by decide +kernel) (by decide +kernel)
theorem zw695 : Cond.methodLink RL 165 yL_ofNote ∈ zBig := zin 691 (by decide +kernel) (by decide +kernel)
theorem zw696 : Cond.static yL_ofNote ∈ zBig := zin 692 (by decide +kernel) (by decide +kernel)
theorem zw697 : Cond.code yX6_ofNote cX6_ofNote 3 (some .int) ∈ zBig := zin 1003 (by decide +kernel) (by decide +kernel)
theorem zw698 : Cond.methodLink RL 167 yX6_ofNote ∈ zBig := zin 1000 (by decide +kernel) (by decide +kernel)
theorem zw699 : Cond.instanceMethod yX6_ofNote ∈ zBig := zin 1001 (by decide +kernel) (by decide +kernel)
theorem zw700 : Cond.selects RX6 yX6_ofNote yX6_ofNote ∈ zBig := zin 1002 (by decide +kernel) (by decide +kernel)
theorem zw701 : Cond.codeWith yL_quote cL_quote 5 (some .int) [(0, 10, 13, 21)] ∈ zBig := zin 697 (by decide +kernel) (by decide +kernel)
theorem zw702 : Cond.methodLink RL 168 yL_quote ∈ zBig := zin 695 (by decide +kernel) (by decide +kernel)
theorem zw703 : Cond.static yL_quote ∈ zBig := zin 696 (by decide +kernel) (by decide +kernel)
theorem zw704 : Cond.code yX6_quote cX6_quote 4 (some .int) ∈ zBig := zin 1019 (by decide +kernel) (by decide +kernel)
theorem zw705 : Cond.methodLink RL 170 yX6_quote ∈ zBig := zin 1016 (by decide +kernel) (by decide +kernel)
theorem zw706 : Cond.instanceMethod yX6_quote ∈ zBig := zin 1017 (by decide +kernel) (by decide +kernel)
theorem zw707 : Cond.selects RX6 yX6_quote yX6_quote ∈ zBig := zin 1018 (by decide +kernel) (by decide +kernel)
theorem zw708 : Cond.codeWith yL_sees cL_sees 5 (some .int) [(0, 17, 20, 21)] ∈ zBig := zin 704 (by decide +kernel) (by decide +kernel)
theorem zw709 : Cond.methodLink RL 171 yL_sees ∈ zBig := zin 702 (by decide +kernel) (by decide +kernel)
theorem zw710 : Cond.static yL_sees ∈ zBig := zin 703 (by decide +kernel) (by decide +kernel)
theorem zw711 : Cond.code yX6_sees cX6_sees 3 (some .boolean) ∈ zBig := zin 1023 (by decide +kernel) (by decide +kernel)
theorem zw712 : Cond.methodLink RL 173 yX6_sees ∈ zBig := zin 1020 (by decide +kernel) (by decide +kernel)
theorem zw713 : Cond.instanceMethod yX6_sees ∈ zBig := zin 1021 (by decide +kernel) (by decide +kernel)
theorem zw714 : Cond.selects RX6 yX6_sees yX6_sees ∈ zBig := zin 1022 (by decide +kernel) (by decide +kernel)
theorem zw715 : Cond.codeWith yL_thread cL_thread 5 (some .int) [(0, 10, 13, 21)] ∈ zBig := zin 708 (by decide +kernel) (by decide +kernel)
theorem zw716 : Cond.methodLink RL 174 yL_thread ∈ zBig := zin 706 (by decide +kernel) (by decide +kernel)
theorem zw717 : Cond.static yL_thread ∈ zBig := zin 707 (by decide +kernel) (by decide +kernel)
theorem zw718 : Cond.code yX6_thread cX6_thread 3 (some .int) ∈ zBig := zin 1027 (by decide +kernel) (by decide +kernel)
theorem zw719 : Cond.methodLink RL 176 yX6_thread ∈ zBig := zin 1024 (by decide +kernel) (by decide +kernel)
theorem zw720 : Cond.instanceMethod yX6_thread ∈ zBig := zin 1025 (by decide +kernel) (by decide +kernel)
theorem zw721 : Cond.selects RX6 yX6_thread yX6_thread ∈ zBig := zin 1026 (by decide +kernel) (by decide +kernel)
theorem zw722 : Cond.codeWith yL_over cL_over 5 (some .int) [(0, 10, 13, 21)] ∈ zBig := zin 719 (by decide +kernel) (by decide +kernel)
theorem zw723 : Cond.methodLink RL 177 yL_over ∈ zBig := zin 717 (by decide +kernel) (by decide +kernel)
theorem zw724 : Cond.static yL_over ∈ zBig := zin 718 (by decide +kernel) (by decide +kernel)
theorem zw725 : Cond.code yX6_over cX6_over 3 (some .int) ∈ zBig := zin 1043 (by decide +kernel) (by decide +kernel)
theorem zw726 : Cond.methodLink RL 179 yX6_over ∈ zBig := zin 1040 (by decide +kernel) (by decide +kernel)
theorem zw727 : Cond.instanceMethod yX6_over ∈ zBig := zin 1041 (by decide +kernel) (by decide +kernel)
theorem zw728 : Cond.selects RX6 yX6_over yX6_over ∈ zBig := zin 1042 (by decide +kernel) (by decide +kernel)
theorem zw729 : Cond.codeWith yL_export cL_export 5 (some .int) [(0, 10, 13, 21)] ∈ zBig := zin 723 (by decide +kernel) (by decide +kernel)
theorem zw730 : Cond.methodLink RL 180 yL_export ∈ zBig := zin 721 (by decide +kernel) (by decide +kernel)
theorem zw731 : Cond.static yL_export ∈ zBig := zin 722 (by decide +kernel) (by decide +kernel)
theorem zw732 : Cond.code yX6_export cX6_export 10 (some .int) ∈ zBig := zin 1051 (by decide +kernel) (by decide +kernel)
theorem zw733 : Cond.methodLink RL 183 yX6_export ∈ zBig := zin 1048 (by decide +kernel) (by decide +kernel)
theorem zw734 : Cond.instanceMethod yX6_export ∈ zBig := zin 1049 (by decide +kernel) (by decide +kernel)
theorem zw735 : Cond.selects RX6 yX6_export yX6_export ∈ zBig := zin 1050 (by decide +kernel) (by decide +kernel)
theorem zw736 : Cond.codeWith yL_exported cL_exported 5 (some .int) [(0, 10, 13, 21), (0, 10, 17, 13)] ∈ zBig := zin 747 (by decide +kernel) (by decide +kernel)
theorem zw737 : Cond.methodLink RL 184 yL_exported ∈ zBig := zin 745 (by decide +kernel) (by decide +kernel)
theorem zw738 : Cond.static yL_exported ∈ zBig := zin 746 (by decide +kernel) (by decide +kernel)
theorem zw739 : Cond.code yX6_exported cX6_exported 3 (some .int) ∈ zBig := zin 1059 (by decide +kernel) (by decide +kernel)
theorem zw740 : Cond.methodLink RL 186 yX6_exported ∈ zBig := zin 1056 (by decide +kernel) (by decide +kernel)
theorem zw741 : Cond.instanceMethod yX6_exported ∈ zBig := zin 1057 (by decide +kernel) (by decide +kernel)
theorem zw742 : Cond.selects RX6 yX6_exported yX6_exported ∈ zBig := zin 1058 (by decide +kernel) (by decide +kernel)
theorem zw743 : Cond.code yX5_meanThread cX5_meanThread 2 (some .double) ∈ zBig := zin 189 (by decide +kernel) (by decide +kernel)
theorem zw744 : Cond.methodLink RL 187 yX5_meanThread ∈ zBig := zin 186 (by decide +kernel) (by decide +kernel)
theorem zw745 : Cond.instanceMethod yX5_meanThread ∈ zBig := zin 187 (by decide +kernel) (by decide +kernel)
theorem zw746 : Cond.selects RX5 yX5_meanThread yX5_meanThread ∈ zBig := zin 188 (by decide +kernel) (by decide +kernel)
theorem zw747 : Cond.code yX6_meanThread cX6_meanThread 1 (some .double) ∈ zBig := zin 1063 (by decide +kernel) (by decide +kernel)
theorem zw748 : Cond.methodLink RL 191 yX6_meanThread ∈ zBig := zin 1060 (by decide +kernel) (by decide +kernel)
theorem zw749 : Cond.instanceMethod yX6_meanThread ∈ zBig := zin 1061 (by decide +kernel) (by decide +kernel)
theorem zw750 : Cond.selects RX6 yX6_meanThread yX6_meanThread ∈ zBig := zin 1062 (by decide +kernel) (by decide +kernel)
theorem zw751 : Cond.codeWith yL_lostBy cL_lostBy 5 (some .int) [(0, 10, 13, 21), (0, 10, 17, 13)] ∈ zBig := zin 754 (by decide +kernel) (by decide +kernel)
theorem zw752 : Cond.methodLink RL 192 yL_lostBy ∈ zBig := zin 752 (by decide +kernel) (by decide +kernel)
theorem zw753 : Cond.static yL_lostBy ∈ zBig := zin 753 (by decide +kernel) (by decide +kernel)
theorem zw754 : Cond.code yX6_lostBy cX6_lostBy 5 (some .int) ∈ zBig := zin 1067 (by decide +kernel) (by decide +kernel)
theorem zw755 : Cond.methodLink RL 194 yX6_lostBy ∈ zBig := zin 1064 (by decide +kernel) (by decide +kernel)
theorem zw756 : Cond.instanceMethod yX6_lostBy ∈ zBig := zin 1065 (by decide +kernel) (by decide +kernel)
theorem zw757 : Cond.selects RX6 yX6_lostBy yX6_lostBy ∈ zBig := zin 1066 (by decide +kernel) (by decide +kernel)
theorem zw758 : Cond.codeWith yL_wouldHeal cL_wouldHeal 4 (some .int) [(0, 9, 12, 21)] ∈ zBig := zin 766 (by decide +kernel) (by decide +kernel)
theorem zw759 : Cond.methodLink RL 195 yL_wouldHeal ∈ zBig := zin 764 (by decide +kernel) (by decide +kernel)
theorem zw760 : Cond.static yL_wouldHeal ∈ zBig := zin 765 (by decide +kernel) (by decide +kernel)
theorem zw761 : Cond.code yX6_wouldHeal cX6_wouldHeal 2 (some .int) ∈ zBig := zin 1071 (by decide +kernel) (by decide +kernel)
theorem zw762 : Cond.methodLink RL 197 yX6_wouldHeal ∈ zBig := zin 1068 (by decide +kernel) (by decide +kernel)
theorem zw763 : Cond.instanceMethod yX6_wouldHeal ∈ zBig := zin 1069 (by decide +kernel) (by decide +kernel)
theorem zw764 : Cond.selects RX6 yX6_wouldHeal yX6_wouldHeal ∈ zBig := zin 1070 (by decide +kernel) (by decide +kernel)
theorem zw765 : Cond.codeWith yL_wouldSee cL_wouldSee 5 (some .int) [(0, 10, 13, 21), (0, 10, 17, 13)] ∈ zBig := zin 770 (by decide +kernel) (by decide +kernel)
theorem zw766 : Cond.methodLink RL 198 yL_wouldSee ∈ zBig := zin 768 (by decide +kernel) (by decide +kernel)
theorem zw767 : Cond.static yL_wouldSee ∈ zBig := zin 769 (by decide +kernel) (by decide +kernel)
theorem zw768 : Cond.code yX6_wouldSee cX6_wouldSee 3 (some .int) ∈ zBig := zin 1075 (by decide +kernel) (by decide +kernel)
theorem zw769 : Cond.methodLink RL 200 yX6_wouldSee ∈ zBig := zin 1072 (by decide +kernel) (by decide +kernel)
theorem zw770 : Cond.instanceMethod yX6_wouldSee ∈ zBig := zin 1073 (by decide +kernel) (by decide +kernel)
theorem zw771 : Cond.selects RX6 yX6_wouldSee yX6_wouldSee ∈ zBig := zin 1074 (by decide +kernel) (by decide +kernel)
theorem zw772 : Cond.code yX5_digest cX5_digest 4 (some .long) ∈ zBig := zin 206 (by decide +kernel) (by decide +kernel)
theorem zw773 : Cond.methodLink RL 201 yX5_digest ∈ zBig := zin 203 (by decide +kernel) (by decide +kernel)
theorem zw774 : Cond.instanceMethod yX5_digest ∈ zBig := zin 204 (by decide +kernel) (by decide +kernel)
theorem zw775 : Cond.selects RX5 yX5_digest yX5_digest ∈ zBig := zin 205 (by decide +kernel) (by decide +kernel)
theorem zw776 : Cond.code yX6_digest cX6_digest 7 (some .long) ∈ zBig := zin 1083 (by decide +kernel) (by decide +kernel)
theorem zw777 : Cond.methodLink RL 205 yX6_digest ∈ zBig := zin 1080 (by decide +kernel) (by decide +kernel)
theorem zw778 : Cond.instanceMethod yX6_digest ∈ zBig := zin 1081 (by decide +kernel) (by decide +kernel)
theorem zw779 : Cond.selects RX6 yX6_digest yX6_digest ∈ zBig := zin 1082 (by decide +kernel) (by decide +kernel)
theorem uz_0 : ∀ w ∈ u_ws RX0 TX0 2, w ∈ zBig := by decide +kernel
theorem df_0 : ∀ j, j < 2 → defaultValue (tyX0 j) = if fR 1 j = true then Value.null else Value.int 0 := by decide +kernel
theorem uz_1 : ∀ w ∈ u_ws RX1 TX1 2, w ∈ zBig := by decide +kernel
theorem df_1 : ∀ j, j < 2 → defaultValue (tyX1 j) = if fR 2 j = true then Value.null else Value.int 0 := by decide +kernel
theorem uz_2 : ∀ w ∈ u_ws RX2 TX2 10, w ∈ zBig := by decide +kernel
theorem df_2 : ∀ j, j < 10 → defaultValue (tyX2 j) = if fR 3 j = true then Value.null else Value.int 0 := by decide +kernel
theorem uz_3 : ∀ w ∈ u_ws RX3 TX3 8, w ∈ zBig := by decide +kernel
theorem df_3 : ∀ j, j < 8 → defaultValue (tyX3 j) = if fR 4 j = true then Value.null else Value.int 0 := by decide +kernel
theorem uz_4 : ∀ w ∈ u_ws RX4 TX4 5, w ∈ zBig := by decide +kernel
theorem df_4 : ∀ j, j < 5 → defaultValue (tyX4 j) = if fR 5 j = true then Value.null else Value.int 0 := by decide +kernel
theorem uz_5 : ∀ w ∈ u_ws RX5 TX5 7, w ∈ zBig := by decide +kernel
theorem df_5 : ∀ j, j < 7 → defaultValue (tyX5 j) = if fR 6 j = true then Value.null else Value.int 0 := by decide +kernel
theorem uz_6 : ∀ w ∈ u_ws RX6 TX6 23, w ∈ zBig := by decide +kernel
theorem df_6 : ∀ j, j < 23 → defaultValue (tyX6 j) = if fR 7 j = true then Value.null else Value.int 0 := by decide +kernel
def zDe : List MethodName := [Bundle.initS "java/lang/RuntimeException", Bundle.initS "java/lang/Exception", Bundle.initS "java/lang/Throwable"]
theorem zat_254 : ∀ w ∈ vx_atS RX5 254 (xcl 3) xsup, w ∈ zBig ∨ w = Cond.castable "java/lang/IndexOutOfBoundsException" "java/lang/IndexOutOfBoundsException" ∨ ∃ q ∈ zDe, w = Cond.declares q := by decide +kernel
theorem zat_269 : ∀ w ∈ vx_atS RX5 269 (xcl 1) xsup, w ∈ zBig ∨ w = Cond.castable "java/lang/IllegalArgumentException" "java/lang/IllegalArgumentException" ∨ ∃ q ∈ zDe, w = Cond.declares q := by decide +kernel
theorem zat_274 : ∀ w ∈ vx_atS RX5 274 (xcl 2) xsup, w ∈ zBig ∨ w = Cond.castable "java/lang/IllegalStateException" "java/lang/IllegalStateException" ∨ ∃ q ∈ zDe, w = Cond.declares q := by decide +kernel
def GwP : GwT := ([("Marginalia", 252, "there is no such user"), ("Marginalia", 257, "there is no such sign"), ("Marginalia", 259, "there is no such note"), ("Marginalia", 261, "the note is gone"), ("Marginalia", 263, "there is no such place or version"), ("Marginalia", 267, "a number is outside its range"), ("Marginalia", 272, "it is refused, or a limit is reached")], [("java/lang/IllegalArgumentException", "java/lang/IndexOutOfBoundsException"), ("java/lang/IllegalStateException", "java/lang/IllegalArgumentException"), ("java/lang/IllegalStateException", "java/lang/IndexOutOfBoundsException")], [("java/lang/IllegalArgumentException", "java/lang/IllegalArgumentException"), ("java/lang/IllegalStateException", "java/lang/IllegalStateException"), ("java/lang/IndexOutOfBoundsException", "java/lang/IndexOutOfBoundsException")], [("Marginalia", 94, "Marginalia$Text", "edits", "I", "Marginalia"), ("Marginalia", 131, "Marginalia$Note", "isEmpty", "Z", "Marginalia"), ("Marginalia", 135, "Marginalia$Note", "strand", "LMarginalia$Strand;", "Marginalia"), ("Marginalia", 143, "Marginalia$Strand", "isSettled", "Z", "Marginalia"), ("Marginalia", 146, "Marginalia$Strand", "author", "I", "Marginalia"), ("Marginalia", 149, "Marginalia$Note", "author", "I", "Marginalia"), ("Marginalia", 157, "Marginalia$Strand", "proposedMany", "I", "Marginalia"), ("Marginalia", 160, "Marginalia$Strand", "proposedSign", "I", "Marginalia"), ("Marginalia", 163, "Marginalia$Note", "number", "I", "Marginalia"), ("Marginalia", 190, "Marginalia$Strand", "quoted", "[I", "Marginalia"), ("Marginalia", 197, "Marginalia$Note", "isGone", "Z", "Marginalia"), ("Marginalia", 200, "Marginalia$Note", "nextInOrder", "LMarginalia$Note;", "Marginalia"), ("Marginalia", 204, "Marginalia$Strand", "anchor", "LMarginalia$Anchor;", "Marginalia"), ("Marginalia", 215, "Marginalia$Export", "size", "I", "Marginalia"), ("Marginalia", 220, "Marginalia$Export", "columns", "[[I", "Marginalia"), ("Marginalia", 289, "Marginalia$Anchor", "from", "I", "Marginalia"), ("Marginalia", 304, "Marginalia$Strand", "headNumber", "I", "Marginalia"), ("Marginalia$Export", 16, "Marginalia$Note", "isGone", "Z", "Marginalia"), ("Marginalia$Export", 26, "Marginalia$Note", "number", "I", "Marginalia"), ("Marginalia$Export", 29, "Marginalia$Note", "depth", "I", "Marginalia"), ("Marginalia$Export", 32, "Marginalia$Note", "strand", "LMarginalia$Strand;", "Marginalia"), ("Marginalia$Export", 36, "Marginalia$Strand", "anchor", "LMarginalia$Anchor;", "Marginalia"), ("Marginalia$Export", 42, "Marginalia$Anchor", "from", "I", "Marginalia"), ("Marginalia$Export", 51, "Marginalia$Note", "nextInOrder", "LMarginalia$Note;", "Marginalia"), ("Marginalia$Note", 45, "Marginalia$Strand", "headNumber", "I", "Marginalia"), ("Marginalia$Note", 54, "Marginalia$Strand", "anchor", "LMarginalia$Anchor;", "Marginalia"), ("Marginalia$Note", 58, "Marginalia$Anchor", "from", "I", "Marginalia"), ("Marginalia$Note", 63, "Marginalia$Anchor", "to", "I", "Marginalia"), ("Marginalia$Note", 66, "Marginalia$Strand", "isSettled", "Z", "Marginalia"), ("Marginalia$Note", 69, "Marginalia$Strand", "view", "I", "Marginalia"), ("Marginalia$Note", 72, "Marginalia$Strand", "proposedMany", "I", "Marginalia")], [("Marginalia$Text", 31, yX5_isWithin, "Marginalia")], zDe)
def md_0 : MdT := (RX0, yX0_init, cX0_init, 3, none, Cond.code yX0_init cX0_init 3 none :: zBig, [], 1, 20)
def md_1 : MdT := (RX0, yX0_lay, cX0_lay, 3, none, Cond.code yX0_lay cX0_lay 3 none :: zBig, [], 0, 0)
def md_2 : MdT := (RX0, yX0_size, cX0_size, 1, (some .int), Cond.code yX0_size cX0_size 1 (some .int) :: zBig, [], 0, 0)
def md_3 : MdT := (RX0, yX0_isLost, cX0_isLost, 1, (some .boolean), Cond.code yX0_isLost cX0_isLost 1 (some .boolean) :: zBig, [], 0, 0)
def md_4 : MdT := (RX0, yX0_covers, cX0_covers, 2, (some .boolean), Cond.code yX0_covers cX0_covers 2 (some .boolean) :: zBig, [], 0, 0)
def md_5 : MdT := (RX0, yX0_isAheadOf, cX0_isAheadOf, 2, (some .boolean), Cond.code yX0_isAheadOf cX0_isAheadOf 2 (some .boolean) :: zBig, [], 0, 0)
def md_6 : MdT := (RX0, yX0_wouldBeLost, cX0_wouldBeLost, 3, (some .boolean), Cond.code yX0_wouldBeLost cX0_wouldBeLost 3 (some .boolean) :: zBig, [], 1, 20)
def md_7 : MdT := (RX0, yX0_moveAsPut, cX0_moveAsPut, 3, none, Cond.code yX0_moveAsPut cX0_moveAsPut 3 none :: zBig, [], 0, 0)
def md_8 : MdT := (RX0, yX0_moveAsCut, cX0_moveAsCut, 3, none, Cond.code yX0_moveAsCut cX0_moveAsCut 3 none :: zBig, [], 2, 43)
def md_9 : MdT := (RX0, yX0_cutAheadOf, cX0_cutAheadOf, 3, (some .int), Cond.code yX0_cutAheadOf cX0_cutAheadOf 3 (some .int) :: zBig, [], 1, 21)
def md_10 : MdT := (RX1, yX1_init, cX1_init, 1, none, Cond.code yX1_init cX1_init 1 none :: zBig, [], 1, 20)
def md_11 : MdT := (RX1, yX1_addOrder, cX1_addOrder, 3, none, Cond.code yX1_addOrder cX1_addOrder 3 none :: zBig, [], 1, 20)
def md_12 : MdT := (RX2, yX2_init, cX2_init, 6, none, Cond.code yX2_init cX2_init 6 none :: zBig, [], 1, 20)
def md_13 : MdT := (RX2, yX2_isHead, cX2_isHead, 1, (some .boolean), Cond.code yX2_isHead cX2_isHead 1 (some .boolean) :: zBig, [], 0, 0)
def md_14 : MdT := (RX2, yX2_isHeadNotGone, cX2_isHeadNotGone, 1, (some .boolean), Cond.code yX2_isHeadNotGone cX2_isHeadNotGone 1 (some .boolean) :: zBig, [], 0, 0)
def md_15 : MdT := (RX2, yX2_contentShown, cX2_contentShown, 1, (some .int), Cond.code yX2_contentShown cX2_contentShown 1 (some .int) :: zBig, [], 0, 0)
def md_16 : MdT := (RX2, yX2_addReply, cX2_addReply, 3, none, Cond.code yX2_addReply cX2_addReply 3 none :: zBig, [], 0, 0)
def md_17 : MdT := (RX2, yX2_emptyAndDrop, cX2_emptyAndDrop, 3, (some .int), Cond.code yX2_emptyAndDrop cX2_emptyAndDrop 3 (some .int) :: zBig, [], 0, 0)
def md_18 : MdT := (RX2, yX2_fact, cX2_fact, 2, (some .int), Cond.code yX2_fact cX2_fact 2 (some .int) :: zBig, [], 1, 20)
def md_19 : MdT := (RX3, yX3_init, cX3_init, 6, none, Cond.code yX3_init cX3_init 6 none :: zBig, [], 1, 20)
def md_20 : MdT := (RX3, yX3_isSeenBy, cX3_isSeenBy, 3, (some .boolean), Cond.code yX3_isSeenBy cX3_isSeenBy 3 (some .boolean) :: zBig, [], 0, 0)
def md_21 : MdT := (RX3, yX3_isCountedAs, cX3_isCountedAs, 2, (some .boolean), Cond.code yX3_isCountedAs cX3_isCountedAs 2 (some .boolean) :: zBig, [], 1, 20)
def md_22 : MdT := (RX4, yX4_init, cX4_init, 1, none, Cond.code yX4_init cX4_init 1 none :: zBig, [], 1, 20)
def md_23 : MdT := (RX4, yX4_size, cX4_size, 1, (some .int), Cond.code yX4_size cX4_size 1 (some .int) :: zBig, [], 0, 0)
def md_24 : MdT := (RX4, yX4_hasRoomFor, cX4_hasRoomFor, 3, (some .boolean), Cond.code yX4_hasRoomFor cX4_hasRoomFor 3 (some .boolean) :: zBig, [], 1, 20)
def md_25 : MdT := (RX4, yX4_hasVersion, cX4_hasVersion, 2, (some .boolean), Cond.code yX4_hasVersion cX4_hasVersion 2 (some .boolean) :: zBig, [], 1, 22)
def md_26 : MdT := (RX4, yX4_hasSignIn, cX4_hasSignIn, 3, (some .boolean), Cond.code yX4_hasSignIn cX4_hasSignIn 3 (some .boolean) :: zBig, [], 1, 22)
def md_27 : MdT := (RX4, yX4_signIn, cX4_signIn, 3, (some .int), Cond.code yX4_signIn cX4_signIn 3 (some .int) :: zBig, [], 0, 0)
def md_28 : MdT := (RX4, yX4_placeNow, cX4_placeNow, 5, (some .int), Cond.code yX4_placeNow cX4_placeNow 5 (some .int) :: zBig, [], 1, 20)
def md_29 : MdT := (RX4, yX4_hasAt, cX4_hasAt, 4, (some .boolean), Cond.code yX4_hasAt cX4_hasAt 4 (some .boolean) :: zBig, [], 1, 22)
def md_30 : MdT := (RX4, yX4_edit, cX4_edit, 8, none, Cond.code yX4_edit cX4_edit 8 none :: zBig, [], 1, 26)
def md_31 : MdT := (RX5, yX5_init, cX5_init, 1, none, Cond.code yX5_init cX5_init 1 none :: zBig, [], 2, 40)
def md_32 : MdT := (RX5, yX5_user, cX5_user, 2, (some .int), Cond.code yX5_user cX5_user 2 (some .int) :: zBig, [], 7, 110)
def md_33 : MdT := (RX5, yX5_setRight, cX5_setRight, 5, (some .int), Cond.code yX5_setRight cX5_setRight 5 (some .int) :: zBig, [], 7, 111)
def md_34 : MdT := (RX5, yX5_insert, cX5_insert, 5, (some .int), Cond.code yX5_insert cX5_insert 5 (some .int) :: zBig, [], 7, 111)
def md_35 : MdT := (RX5, yX5_delete, cX5_delete, 4, (some .int), Cond.code yX5_delete cX5_delete 4 (some .int) :: zBig, [], 7, 111)
def md_36 : MdT := (RX5, yX5_length, cX5_length, 1, (some .int), Cond.code yX5_length cX5_length 1 (some .int) :: zBig, [], 1, 20)
def md_37 : MdT := (RX5, yX5_sign, cX5_sign, 3, (some .int), Cond.code yX5_sign cX5_sign 3 (some .int) :: zBig, [], 7, 110)
def md_38 : MdT := (RX5, yX5_now, cX5_now, 3, (some .int), Cond.code yX5_now cX5_now 3 (some .int) :: zBig, [], 7, 110)
def md_39 : MdT := (RX5, yX5_version, cX5_version, 1, (some .int), Cond.code yX5_version cX5_version 1 (some .int) :: zBig, [], 0, 0)
def md_40 : MdT := (RX5, yX5_note, cX5_note, 7, (some .int), Cond.code yX5_note cX5_note 7 (some .int) :: zBig, [], 7, 111)
def md_41 : MdT := (RX5, yX5_reply, cX5_reply, 6, (some .int), Cond.code yX5_reply cX5_reply 6 (some .int) :: zBig, [], 7, 112)
def md_42 : MdT := (RX5, yX5_settle, cX5_settle, 7, (some .boolean), Cond.code yX5_settle cX5_settle 7 (some .boolean) :: zBig, [], 7, 112)
def md_43 : MdT := (RX5, yX5_remove, cX5_remove, 4, (some .int), Cond.code yX5_remove cX5_remove 4 (some .int) :: zBig, [], 7, 112)
def md_44 : MdT := (RX5, yX5_propose, cX5_propose, 6, (some .int), Cond.code yX5_propose cX5_propose 6 (some .int) :: zBig, [], 7, 112)
def md_45 : MdT := (RX5, yX5_take, cX5_take, 4, (some .int), Cond.code yX5_take cX5_take 4 (some .int) :: zBig, [], 7, 112)
def md_46 : MdT := (RX5, yX5_heal, cX5_heal, 3, (some .int), Cond.code yX5_heal cX5_heal 3 (some .int) :: zBig, [], 4, 90)
def md_47 : MdT := (RX5, yX5_many, cX5_many, 2, (some .int), Cond.code yX5_many cX5_many 2 (some .int) :: zBig, [], 7, 110)
def md_48 : MdT := (RX5, yX5_right, cX5_right, 2, (some .int), Cond.code yX5_right cX5_right 2 (some .int) :: zBig, [], 7, 111)
def md_49 : MdT := (RX5, yX5_ofNote, cX5_ofNote, 4, (some .int), Cond.code yX5_ofNote cX5_ofNote 4 (some .int) :: zBig, [], 7, 112)
def md_50 : MdT := (RX5, yX5_quote, cX5_quote, 4, (some .int), Cond.code yX5_quote cX5_quote 4 (some .int) :: zBig, [], 7, 112)
def md_51 : MdT := (RX5, yX5_sees, cX5_sees, 3, (some .boolean), Cond.code yX5_sees cX5_sees 3 (some .boolean) :: zBig, [], 7, 112)
def md_52 : MdT := (RX5, yX5_thread, cX5_thread, 5, (some .int), Cond.code yX5_thread cX5_thread 5 (some .int) :: zBig, [], 7, 112)
def md_53 : MdT := (RX5, yX5_over, cX5_over, 6, (some .int), Cond.code yX5_over cX5_over 6 (some .int) :: zBig, [], 7, 111)
def md_54 : MdT := (RX5, yX5_export, cX5_export, 5, (some .int), Cond.code yX5_export cX5_export 5 (some .int) :: zBig, [], 7, 111)
def md_55 : MdT := (RX5, yX5_exported, cX5_exported, 3, (some .int), Cond.code yX5_exported cX5_exported 3 (some .int) :: zBig, [], 7, 110)
def md_56 : MdT := (RX5, yX5_meanThread, cX5_meanThread, 2, (some .double), Cond.code yX5_meanThread cX5_meanThread 2 (some .double) :: zBig, [], 3, 64)
def md_57 : MdT := (RX5, yX5_lostBy, cX5_lostBy, 5, (some .int), Cond.code yX5_lostBy cX5_lostBy 5 (some .int) :: zBig, [], 7, 111)
def md_58 : MdT := (RX5, yX5_wouldHeal, cX5_wouldHeal, 2, (some .int), Cond.code yX5_wouldHeal cX5_wouldHeal 2 (some .int) :: zBig, [], 7, 112)
def md_59 : MdT := (RX5, yX5_wouldSee, cX5_wouldSee, 5, (some .int), Cond.code yX5_wouldSee cX5_wouldSee 5 (some .int) :: zBig, [], 7, 111)
def md_60 : MdT := (RX5, yX5_digest, cX5_digest, 4, (some .long), Cond.code yX5_digest cX5_digest 4 (some .long) :: zBig, [], 9, 161)
def md_61 : MdT := (RX5, yX5_requireUser, cX5_requireUser, 2, none, Cond.code yX5_requireUser cX5_requireUser 2 none :: zBig, [], 6, 90)
def md_62 : MdT := (RX5, yX5_requireSign, cX5_requireSign, 2, none, Cond.code yX5_requireSign cX5_requireSign 2 none :: zBig, [], 6, 90)
def md_63 : MdT := (RX5, yX5_requireNote, cX5_requireNote, 3, (some (.object "Marginalia$Note")), Cond.code yX5_requireNote cX5_requireNote 3 (some (.object "Marginalia$Note")) :: zBig, [], 6, 90)
def md_64 : MdT := (RX5, yX5_requireIndex, cX5_requireIndex, 1, none, Cond.code yX5_requireIndex cX5_requireIndex 1 none :: zBig, [], 6, 90)
def md_65 : MdT := (RX5, yX5_requireArgument, cX5_requireArgument, 1, none, Cond.code yX5_requireArgument cX5_requireArgument 1 none :: zBig, [], 6, 90)
def md_66 : MdT := (RX5, yX5_requireState, cX5_requireState, 1, none, Cond.code yX5_requireState cX5_requireState 1 none :: zBig, [], 6, 90)
def md_67 : MdT := (RX5, yX5_isWithin, cX5_isWithin, 3, (some .boolean), Cond.code yX5_isWithin cX5_isWithin 3 (some .boolean) :: zBig, [], 0, 0)
def md_68 : MdT := (RX5, yX5_isRight, cX5_isRight, 1, (some .boolean), Cond.code yX5_isRight cX5_isRight 1 (some .boolean) :: zBig, [], 1, 22)
def md_69 : MdT := (RX5, yX5_isContent, cX5_isContent, 1, (some .boolean), Cond.code yX5_isContent cX5_isContent 1 (some .boolean) :: zBig, [], 1, 22)
def md_70 : MdT := (RX5, yX5_putSigns, cX5_putSigns, 5, none, Cond.code yX5_putSigns cX5_putSigns 5 none :: zBig, [], 2, 53)
def md_71 : MdT := (RX5, yX5_cutSigns, cX5_cutSigns, 4, none, Cond.code yX5_cutSigns cX5_cutSigns 4 none :: zBig, [], 3, 65)
def md_72 : MdT := (RX5, yX5_canTake, cX5_canTake, 3, (some .boolean), Cond.code yX5_canTake cX5_canTake 3 (some .boolean) :: zBig, [], 2, 42)
def md_73 : MdT := (RX5, yX5_putProposal, cX5_putProposal, 5, none, Cond.code yX5_putProposal cX5_putProposal 5 none :: zBig, [], 4, 88)
def md_74 : MdT := (RX5, yX5_quoteOf, cX5_quoteOf, 5, (some (.array .int)), Cond.code yX5_quoteOf cX5_quoteOf 5 (some (.array .int)) :: zBig, [], 1, 22)
def md_75 : MdT := (RX5, yX5_healAnchor, cX5_healAnchor, 3, (some .boolean), Cond.code yX5_healAnchor cX5_healAnchor 3 (some .boolean) :: zBig, [], 3, 68)
def md_76 : MdT := (RX5, yX5_placeOfQuote, cX5_placeOfQuote, 4, (some .int), Cond.code yX5_placeOfQuote cX5_placeOfQuote 4 (some .int) :: zBig, [], 2, 45)
def md_77 : MdT := (RX5, yX5_keepNote, cX5_keepNote, 2, (some .int), Cond.code yX5_keepNote cX5_keepNote 2 (some .int) :: zBig, [], 0, 0)
def md_78 : MdT := (RX5, yX5_headOf, cX5_headOf, 2, (some (.object "Marginalia$Note")), Cond.code yX5_headOf cX5_headOf 2 (some (.object "Marginalia$Note")) :: zBig, [], 0, 0)
def md_79 : MdT := (RX5, yX5_isSeen, cX5_isSeen, 3, (some .boolean), Cond.code yX5_isSeen cX5_isSeen 3 (some .boolean) :: zBig, [], 1, 22)
def md_80 : MdT := (RX5, yX5_countNotes, cX5_countNotes, 3, (some .int), Cond.code yX5_countNotes cX5_countNotes 3 (some .int) :: zBig, [], 0, 0)
def md_81 : MdT := (RX5, yX5_countStrands, cX5_countStrands, 4, (some .int), Cond.code yX5_countStrands cX5_countStrands 4 (some .int) :: zBig, [], 2, 41)
def md_82 : MdT := (RX5, yX5_chooseHeads, cX5_chooseHeads, 6, (some .int), Cond.code yX5_chooseHeads cX5_chooseHeads 6 (some .int) :: zBig, [], 2, 44)
def md_83 : MdT := (RX5, yX5_putAmongChosen, cX5_putAmongChosen, 4, none, Cond.code yX5_putAmongChosen cX5_putAmongChosen 4 none :: zBig, [], 1, 21)
def md_84 : MdT := (RX5, yX5_mix, cX5_mix, 4, (some .long), Cond.code yX5_mix cX5_mix 4 (some .long) :: zBig, [], 0, 0)
def md_85 : MdT := (RX5, yX5_digestText, cX5_digestText, 6, (some .long), Cond.code yX5_digestText cX5_digestText 6 (some .long) :: zBig, [], 8, 131)
def md_86 : MdT := (RX5, yX5_digestUser, cX5_digestUser, 6, (some .long), Cond.code yX5_digestUser cX5_digestUser 6 (some .long) :: zBig, [], 8, 136)
def md_87 : MdT := (RX5, yX5_digestNote, cX5_digestNote, 7, (some .long), Cond.code yX5_digestNote cX5_digestNote 7 (some .long) :: zBig, [], 8, 135)
def md_88 : MdT := (RX5, yX5_digestExport, cX5_digestExport, 7, (some .long), Cond.code yX5_digestExport cX5_digestExport 7 (some .long) :: zBig, [], 1, 23)
def md_89 : MdT := (RX6, yX6_init, cX6_init, 1, none, Cond.code yX6_init cX6_init 1 none :: zBig, [], 1, 20)
def md_90 : MdT := (RX6, yX6_thrown, cX6_thrown, 1, (some .int), Cond.code yX6_thrown cX6_thrown 1 (some .int) :: zBig, [], 0, 0)
def md_91 : MdT := (RX6, yX6_no, cX6_no, 2, (some .int), Cond.code yX6_no cX6_no 2 (some .int) :: zBig, [], 0, 0)
def md_92 : MdT := (RX6, yX6_isNot, cX6_isNot, 2, (some .boolean), Cond.code yX6_isNot cX6_isNot 2 (some .boolean) :: zBig, [], 0, 0)
def md_93 : MdT := (RX6, yX6_ok, cX6_ok, 2, (some .int), Cond.code yX6_ok cX6_ok 2 (some .int) :: zBig, [], 0, 0)
def md_94 : MdT := (RX6, yX6_isIn, cX6_isIn, 3, (some .boolean), Cond.code yX6_isIn cX6_isIn 3 (some .boolean) :: zBig, [], 0, 0)
def md_95 : MdT := (RX6, yX6_isUser, cX6_isUser, 2, (some .boolean), Cond.code yX6_isUser cX6_isUser 2 (some .boolean) :: zBig, [], 1, 22)
def md_96 : MdT := (RX6, yX6_isNote, cX6_isNote, 2, (some .boolean), Cond.code yX6_isNote cX6_isNote 2 (some .boolean) :: zBig, [], 1, 22)
def md_97 : MdT := (RX6, yX6_text, cX6_text, 1, (some (.array .int)), Cond.code yX6_text cX6_text 1 (some (.array .int)) :: zBig, [], 0, 0)
def md_98 : MdT := (RX6, yX6_user, cX6_user, 2, (some .int), Cond.code yX6_user cX6_user 2 (some .int) :: zBig, [], 1, 22)
def md_99 : MdT := (RX6, yX6_setRight, cX6_setRight, 5, (some .int), Cond.code yX6_setRight cX6_setRight 5 (some .int) :: zBig, [], 2, 43)
def md_100 : MdT := (RX6, yX6_put, cX6_put, 7, none, Cond.code yX6_put cX6_put 7 none :: zBig, [], 1, 26)
def md_101 : MdT := (RX6, yX6_cut, cX6_cut, 6, none, Cond.code yX6_cut cX6_cut 6 none :: zBig, [], 1, 26)
def md_102 : MdT := (RX6, yX6_insert, cX6_insert, 5, (some .int), Cond.code yX6_insert cX6_insert 5 (some .int) :: zBig, [], 2, 52)
def md_103 : MdT := (RX6, yX6_delete, cX6_delete, 4, (some .int), Cond.code yX6_delete cX6_delete 4 (some .int) :: zBig, [], 2, 51)
def md_104 : MdT := (RX6, yX6_length, cX6_length, 1, (some .int), Cond.code yX6_length cX6_length 1 (some .int) :: zBig, [], 1, 21)
def md_105 : MdT := (RX6, yX6_sign, cX6_sign, 3, (some .int), Cond.code yX6_sign cX6_sign 3 (some .int) :: zBig, [], 1, 22)
def md_106 : MdT := (RX6, yX6_now, cX6_now, 4, (some .int), Cond.code yX6_now cX6_now 4 (some .int) :: zBig, [], 1, 22)
def md_107 : MdT := (RX6, yX6_version, cX6_version, 1, (some .int), Cond.code yX6_version cX6_version 1 (some .int) :: zBig, [], 1, 21)
def md_108 : MdT := (RX6, yX6_seesBy, cX6_seesBy, 4, (some .boolean), Cond.code yX6_seesBy cX6_seesBy 4 (some .boolean) :: zBig, [], 0, 0)
def md_109 : MdT := (RX6, yX6_seesNow, cX6_seesNow, 3, (some .boolean), Cond.code yX6_seesNow cX6_seesNow 3 (some .boolean) :: zBig, [], 1, 23)
def md_110 : MdT := (RX6, yX6_may, cX6_may, 4, (some .boolean), Cond.code yX6_may cX6_may 4 (some .boolean) :: zBig, [], 2, 45)
def md_111 : MdT := (RX6, yX6_add, cX6_add, 4, (some .int), Cond.code yX6_add cX6_add 4 (some .int) :: zBig, [], 0, 0)
def md_112 : MdT := (RX6, yX6_note, cX6_note, 7, (some .int), Cond.code yX6_note cX6_note 7 (some .int) :: zBig, [], 2, 43)
def md_113 : MdT := (RX6, yX6_reply, cX6_reply, 4, (some .int), Cond.code yX6_reply cX6_reply 4 (some .int) :: zBig, [], 3, 68)
def md_114 : MdT := (RX6, yX6_settle, cX6_settle, 5, (some .boolean), Cond.code yX6_settle cX6_settle 5 (some .boolean) :: zBig, [], 3, 68)
def md_115 : MdT := (RX6, yX6_replies, cX6_replies, 4, (some .int), Cond.code yX6_replies cX6_replies 4 (some .int) :: zBig, [], 0, 0)
def md_116 : MdT := (RX6, yX6_remove, cX6_remove, 5, (some .int), Cond.code yX6_remove cX6_remove 5 (some .int) :: zBig, [], 3, 68)
def md_117 : MdT := (RX6, yX6_propose, cX6_propose, 5, (some .int), Cond.code yX6_propose cX6_propose 5 (some .int) :: zBig, [], 3, 68)
def md_118 : MdT := (RX6, yX6_take, cX6_take, 6, (some .int), Cond.code yX6_take cX6_take 6 (some .int) :: zBig, [], 3, 68)
def md_119 : MdT := (RX6, yX6_found, cX6_found, 6, (some .int), Cond.code yX6_found cX6_found 6 (some .int) :: zBig, [], 1, 21)
def md_120 : MdT := (RX6, yX6_isHead, cX6_isHead, 2, (some .boolean), Cond.code yX6_isHead cX6_isHead 2 (some .boolean) :: zBig, [], 0, 0)
def md_121 : MdT := (RX6, yX6_isLost, cX6_isLost, 2, (some .boolean), Cond.code yX6_isLost cX6_isLost 2 (some .boolean) :: zBig, [], 0, 0)
def md_122 : MdT := (RX6, yX6_heal, cX6_heal, 3, (some .int), Cond.code yX6_heal cX6_heal 3 (some .int) :: zBig, [], 2, 46)
def md_123 : MdT := (RX6, yX6_manyNow, cX6_manyNow, 5, (some .int), Cond.code yX6_manyNow cX6_manyNow 5 (some .int) :: zBig, [], 1, 21)
def md_124 : MdT := (RX6, yX6_many, cX6_many, 2, (some .int), Cond.code yX6_many cX6_many 2 (some .int) :: zBig, [], 2, 45)
def md_125 : MdT := (RX6, yX6_right, cX6_right, 2, (some .int), Cond.code yX6_right cX6_right 2 (some .int) :: zBig, [], 2, 43)
def md_126 : MdT := (RX6, yX6_depth, cX6_depth, 4, (some .int), Cond.code yX6_depth cX6_depth 4 (some .int) :: zBig, [], 0, 0)
def md_127 : MdT := (RX6, yX6_contentOf, cX6_contentOf, 2, (some .int), Cond.code yX6_contentOf cX6_contentOf 2 (some .int) :: zBig, [], 0, 0)
def md_128 : MdT := (RX6, yX6_ofNow, cX6_ofNow, 4, (some .int), Cond.code yX6_ofNow cX6_ofNow 4 (some .int) :: zBig, [], 1, 23)
def md_129 : MdT := (RX6, yX6_ofNote, cX6_ofNote, 3, (some .int), Cond.code yX6_ofNote cX6_ofNote 3 (some .int) :: zBig, [], 2, 46)
def md_130 : MdT := (RX6, yX6_quote, cX6_quote, 4, (some .int), Cond.code yX6_quote cX6_quote 4 (some .int) :: zBig, [], 2, 43)
def md_131 : MdT := (RX6, yX6_sees, cX6_sees, 3, (some .boolean), Cond.code yX6_sees cX6_sees 3 (some .boolean) :: zBig, [], 2, 45)
def md_132 : MdT := (RX6, yX6_tellOrder, cX6_tellOrder, 3, none, Cond.code yX6_tellOrder cX6_tellOrder 3 none :: zBig, [], 2, 46)
def md_133 : MdT := (RX6, yX6_behind, cX6_behind, 4, (some .int), Cond.code yX6_behind cX6_behind 4 (some .int) :: zBig, [], 1, 23)
def md_134 : MdT := (RX6, yX6_reply_, cX6_reply_, 4, (some .int), Cond.code yX6_reply_ cX6_reply_ 4 (some .int) :: zBig, [], 0, 0)
def md_135 : MdT := (RX6, yX6_thread, cX6_thread, 3, (some .int), Cond.code yX6_thread cX6_thread 3 (some .int) :: zBig, [], 3, 68)
def md_136 : MdT := (RX6, yX6_overNow, cX6_overNow, 5, (some .int), Cond.code yX6_overNow cX6_overNow 5 (some .int) :: zBig, [], 2, 45)
def md_137 : MdT := (RX6, yX6_over, cX6_over, 3, (some .int), Cond.code yX6_over cX6_over 3 (some .int) :: zBig, [], 3, 69)
def md_138 : MdT := (RX6, yX6_isAhead, cX6_isAhead, 3, (some .boolean), Cond.code yX6_isAhead cX6_isAhead 3 (some .boolean) :: zBig, [], 0, 0)
def md_139 : MdT := (RX6, yX6_export, cX6_export, 10, (some .int), Cond.code yX6_export cX6_export 10 (some .int) :: zBig, [], 3, 68)
def md_140 : MdT := (RX6, yX6_exported, cX6_exported, 3, (some .int), Cond.code yX6_exported cX6_exported 3 (some .int) :: zBig, [], 1, 22)
def md_141 : MdT := (RX6, yX6_meanThread, cX6_meanThread, 1, (some .double), Cond.code yX6_meanThread cX6_meanThread 1 (some .double) :: zBig, [], 2, 45)
def md_142 : MdT := (RX6, yX6_lostBy, cX6_lostBy, 5, (some .int), Cond.code yX6_lostBy cX6_lostBy 5 (some .int) :: zBig, [], 1, 22)
def md_143 : MdT := (RX6, yX6_wouldHeal, cX6_wouldHeal, 2, (some .int), Cond.code yX6_wouldHeal cX6_wouldHeal 2 (some .int) :: zBig, [], 2, 46)
def md_144 : MdT := (RX6, yX6_seen, cX6_seen, 5, (some .int), Cond.code yX6_seen cX6_seen 5 (some .int) :: zBig, [], 1, 23)
def md_145 : MdT := (RX6, yX6_wouldSee, cX6_wouldSee, 3, (some .int), Cond.code yX6_wouldSee cX6_wouldSee 3 (some .int) :: zBig, [], 2, 47)
def md_146 : MdT := (RX6, yX6_digest, cX6_digest, 7, (some .long), Cond.code yX6_digest cX6_digest 7 (some .long) :: zBig, [], 3, 69)
def md_147 : MdT := (RL, yL_user, cL_user, 4, (some .int), Cond.codeWith yL_user cL_user 4 (some .int) [(0, 9, 12, 13), (0, 9, 15, 15)] :: zBig, [(0, 9, 12, 13), (0, 9, 15, 15)], 8, 131)
def md_148 : MdT := (RL, yL_setRight, cL_setRight, 6, (some .int), Cond.codeWith yL_setRight cL_setRight 6 (some .int) [(0, 12, 15, 21), (0, 12, 19, 13), (0, 12, 23, 15)] :: zBig, [(0, 12, 15, 21), (0, 12, 19, 13), (0, 12, 23, 15)], 8, 135)
def md_149 : MdT := (RL, yL_insert, cL_insert, 7, (some .int), Cond.codeWith yL_insert cL_insert 7 (some .int) [(0, 14, 17, 21), (0, 14, 21, 13), (0, 14, 25, 15)] :: zBig, [(0, 14, 17, 21), (0, 14, 21, 13), (0, 14, 25, 15)], 8, 135)
def md_150 : MdT := (RL, yL_delete, cL_delete, 6, (some .int), Cond.codeWith yL_delete cL_delete 6 (some .int) [(0, 12, 15, 21), (0, 12, 19, 13), (0, 12, 23, 15)] :: zBig, [(0, 12, 15, 21), (0, 12, 19, 13), (0, 12, 23, 15)], 8, 134)
def md_151 : MdT := (RL, yL_sign, cL_sign, 5, (some .int), Cond.codeWith yL_sign cL_sign 5 (some .int) [(0, 10, 13, 21)] :: zBig, [(0, 10, 13, 21)], 8, 132)
def md_152 : MdT := (RL, yL_now, cL_now, 5, (some .int), Cond.codeWith yL_now cL_now 5 (some .int) [(0, 10, 13, 21)] :: zBig, [(0, 10, 13, 21)], 8, 132)
def md_153 : MdT := (RL, yL_note, cL_note, 8, (some .int), Cond.codeWith yL_note cL_note 8 (some .int) [(0, 16, 19, 21), (0, 16, 23, 13), (0, 16, 27, 15)] :: zBig, [(0, 16, 19, 21), (0, 16, 23, 13), (0, 16, 27, 15)], 8, 137)
def md_154 : MdT := (RL, yL_reply, cL_reply, 6, (some .int), Cond.codeWith yL_reply cL_reply 6 (some .int) [(0, 12, 15, 21), (0, 12, 19, 13), (0, 12, 23, 15)] :: zBig, [(0, 12, 15, 21), (0, 12, 19, 13), (0, 12, 23, 15)], 8, 137)
def md_155 : MdT := (RL, yL_settle, cL_settle, 6, (some .int), Cond.codeWith yL_settle cL_settle 6 (some .int) [(0, 19, 22, 21), (0, 19, 26, 15)] :: zBig, [(0, 19, 22, 21), (0, 19, 26, 15)], 8, 138)
def md_156 : MdT := (RL, yL_remove, cL_remove, 5, (some .int), Cond.codeWith yL_remove cL_remove 5 (some .int) [(0, 10, 13, 21), (0, 10, 17, 15)] :: zBig, [(0, 10, 13, 21), (0, 10, 17, 15)], 8, 135)
def md_157 : MdT := (RL, yL_propose, cL_propose, 7, (some .int), Cond.codeWith yL_propose cL_propose 7 (some .int) [(0, 14, 17, 21), (0, 14, 21, 13), (0, 14, 25, 15)] :: zBig, [(0, 14, 17, 21), (0, 14, 21, 13), (0, 14, 25, 15)], 8, 137)
def md_158 : MdT := (RL, yL_take, cL_take, 5, (some .int), Cond.codeWith yL_take cL_take 5 (some .int) [(0, 10, 13, 21), (0, 10, 17, 13), (0, 10, 21, 15)] :: zBig, [(0, 10, 13, 21), (0, 10, 17, 13), (0, 10, 21, 15)], 8, 135)
def md_159 : MdT := (RL, yL_many, cL_many, 4, (some .int), Cond.codeWith yL_many cL_many 4 (some .int) [(0, 9, 12, 13)] :: zBig, [(0, 9, 12, 13)], 8, 131)
def md_160 : MdT := (RL, yL_right, cL_right, 4, (some .int), Cond.codeWith yL_right cL_right 4 (some .int) [(0, 9, 12, 21)] :: zBig, [(0, 9, 12, 21)], 8, 132)
def md_161 : MdT := (RL, yL_ofNote, cL_ofNote, 5, (some .int), Cond.codeWith yL_ofNote cL_ofNote 5 (some .int) [(0, 10, 13, 21), (0, 10, 17, 13)] :: zBig, [(0, 10, 13, 21), (0, 10, 17, 13)], 8, 135)
def md_162 : MdT := (RL, yL_quote, cL_quote, 5, (some .int), Cond.codeWith yL_quote cL_quote 5 (some .int) [(0, 10, 13, 21)] :: zBig, [(0, 10, 13, 21)], 8, 135)
def md_163 : MdT := (RL, yL_sees, cL_sees, 5, (some .int), Cond.codeWith yL_sees cL_sees 5 (some .int) [(0, 17, 20, 21)] :: zBig, [(0, 17, 20, 21)], 8, 134)
def md_164 : MdT := (RL, yL_thread, cL_thread, 5, (some .int), Cond.codeWith yL_thread cL_thread 5 (some .int) [(0, 10, 13, 21)] :: zBig, [(0, 10, 13, 21)], 8, 136)
def md_165 : MdT := (RL, yL_over, cL_over, 5, (some .int), Cond.codeWith yL_over cL_over 5 (some .int) [(0, 10, 13, 21)] :: zBig, [(0, 10, 13, 21)], 8, 136)
def md_166 : MdT := (RL, yL_export, cL_export, 5, (some .int), Cond.codeWith yL_export cL_export 5 (some .int) [(0, 10, 13, 21)] :: zBig, [(0, 10, 13, 21)], 8, 135)
def md_167 : MdT := (RL, yL_exported, cL_exported, 5, (some .int), Cond.codeWith yL_exported cL_exported 5 (some .int) [(0, 10, 13, 21), (0, 10, 17, 13)] :: zBig, [(0, 10, 13, 21), (0, 10, 17, 13)], 8, 132)
def md_168 : MdT := (RL, yL_lostBy, cL_lostBy, 5, (some .int), Cond.codeWith yL_lostBy cL_lostBy 5 (some .int) [(0, 10, 13, 21), (0, 10, 17, 13)] :: zBig, [(0, 10, 13, 21), (0, 10, 17, 13)], 8, 135)
def md_169 : MdT := (RL, yL_wouldHeal, cL_wouldHeal, 4, (some .int), Cond.codeWith yL_wouldHeal cL_wouldHeal 4 (some .int) [(0, 9, 12, 21)] :: zBig, [(0, 9, 12, 21)], 8, 133)
def md_170 : MdT := (RL, yL_wouldSee, cL_wouldSee, 5, (some .int), Cond.codeWith yL_wouldSee cL_wouldSee 5 (some .int) [(0, 10, 13, 21), (0, 10, 17, 13)] :: zBig, [(0, 10, 13, 21), (0, 10, 17, 13)], 8, 135)
def md_171 : MdT := (RL, x, code, 9, (some .boolean), Cond.code x code 9 (some .boolean) :: zBig, [], 12, 438)
def mdl_0 : List MdT := [md_0, md_1, md_2, md_3, md_4, md_5, md_6, md_7, md_8, md_9, md_10, md_11, md_12, md_13, md_14, md_15, md_16, md_17, md_18, md_19, md_20, md_21, md_22, md_23, md_24]
def mdl_1 : List MdT := [md_25, md_26, md_27, md_28, md_29, md_30, md_31, md_32, md_33, md_34, md_35, md_36, md_37, md_38, md_39, md_40, md_41, md_42, md_43, md_44, md_45, md_46, md_47, md_48, md_49]
def mdl_2 : List MdT := [md_50, md_51, md_52, md_53, md_54, md_55, md_56, md_57, md_58, md_59, md_60, md_61, md_62, md_63, md_64, md_65, md_66, md_67, md_68, md_69, md_70, md_71, md_72, md_73, md_74]
def mdl_3 : List MdT := [md_75, md_76, md_77, md_78, md_79, md_80, md_81, md_82, md_83, md_84, md_85, md_86, md_87, md_88, md_89, md_90, md_91, md_92, md_93, md_94, md_95, md_96, md_97, md_98, md_99]
def mdl_4 : List MdT := [md_100, md_101, md_102, md_103, md_104, md_105, md_106, md_107, md_108, md_109, md_110, md_111, md_112, md_113, md_114, md_115, md_116, md_117, md_118, md_119, md_120, md_121, md_122, md_123, md_124]
def mdl_5 : List MdT := [md_125, md_126, md_127, md_128, md_129, md_130, md_131, md_132, md_133, md_134, md_135, md_136, md_137, md_138, md_139, md_140, md_141, md_142, md_143, md_144, md_145, md_146, md_147, md_148, md_149]
def mdl_6 : List MdT := [md_150, md_151, md_152, md_153, md_154, md_155, md_156, md_157, md_158, md_159, md_160, md_161, md_162, md_163, md_164, md_165, md_166, md_167, md_168, md_169, md_170, md_171]
def MdP (m : Nat) : MdT := ([mdl_0, mdl_1, mdl_2, mdl_3, mdl_4, mdl_5, mdl_6][m / 25]?.getD [])[m % 25]?.getD md_0
theorem hws_0 : mWs (MdP 0) = Cond.code (mNam (MdP 0)) (mCod (MdP 0)) (mMax (MdP 0)) (mRet (MdP 0)) :: zBig := rfl
theorem iw_0 : ∀ w ∈ zBig, w ∈ mWs (MdP 0) := fun w h => List.mem_cons_of_mem _ h
theorem hws_1 : mWs (MdP 1) = Cond.code (mNam (MdP 1)) (mCod (MdP 1)) (mMax (MdP 1)) (mRet (MdP 1)) :: zBig := rfl
theorem iw_1 : ∀ w ∈ zBig, w ∈ mWs (MdP 1) := fun w h => List.mem_cons_of_mem _ h
theorem hws_2 : mWs (MdP 2) = Cond.code (mNam (MdP 2)) (mCod (MdP 2)) (mMax (MdP 2)) (mRet (MdP 2)) :: zBig := rfl
theorem iw_2 : ∀ w ∈ zBig, w ∈ mWs (MdP 2) := fun w h => List.mem_cons_of_mem _ h
theorem hws_3 : mWs (MdP 3) = Cond.code (mNam (MdP 3)) (mCod (MdP 3)) (mMax (MdP 3)) (mRet (MdP 3)) :: zBig := rfl
theorem iw_3 : ∀ w ∈ zBig, w ∈ mWs (MdP 3) := fun w h => List.mem_cons_of_mem _ h
theorem hws_4 : mWs (MdP 4) = Cond.code (mNam (MdP 4)) (mCod (MdP 4)) (mMax (MdP 4)) (mRet (MdP 4)) :: zBig := rfl
theorem iw_4 : ∀ w ∈ zBig, w ∈ mWs (MdP 4) := fun w h => List.mem_cons_of_mem _ h
theorem hws_5 : mWs (MdP 5) = Cond.code (mNam (MdP 5)) (mCod (MdP 5)) (mMax (MdP 5)) (mRet (MdP 5)) :: zBig := rfl
theorem iw_5 : ∀ w ∈ zBig, w ∈ mWs (MdP 5) := fun w h => List.mem_cons_of_mem _ h
theorem hws_6 : mWs (MdP 6) = Cond.code (mNam (MdP 6)) (mCod (MdP 6)) (mMax (MdP 6)) (mRet (MdP 6)) :: zBig := rfl
theorem iw_6 : ∀ w ∈ zBig, w ∈ mWs (MdP 6) := fun w h => List.mem_cons_of_mem _ h
theorem hws_7 : mWs (MdP 7) = Cond.code (mNam (MdP 7)) (mCod (MdP 7)) (mMax (MdP 7)) (mRet (MdP 7)) :: zBig := rfl
theorem iw_7 : ∀ w ∈ zBig, w ∈ mWs (MdP 7) := fun w h => List.mem_cons_of_mem _ h
theorem hws_8 : mWs (MdP 8) = Cond.code (mNam (MdP 8)) (mCod (MdP 8)) (mMax (MdP 8)) (mRet (MdP 8)) :: zBig := rfl
theorem iw_8 : ∀ w ∈ zBig, w ∈ mWs (MdP 8) := fun w h => List.mem_cons_of_mem _ h
theorem hws_9 : mWs (MdP 9) = Cond.code (mNam (MdP 9)) (mCod (MdP 9)) (mMax (MdP 9)) (mRet (MdP 9)) :: zBig := rfl
theorem iw_9 : ∀ w ∈ zBig, w ∈ mWs (MdP 9) := fun w h => List.mem_cons_of_mem _ h
theorem hws_10 : mWs (MdP 10) = Cond.code (mNam (MdP 10)) (mCod (MdP 10)) (mMax (MdP 10)) (mRet (MdP 10)) :: zBig := rfl
theorem iw_10 : ∀ w ∈ zBig, w ∈ mWs (MdP 10) := fun w h => List.mem_cons_of_mem _ h
theorem hws_11 : mWs (MdP 11) = Cond.code (mNam (MdP 11)) (mCod (MdP 11)) (mMax (MdP 11)) (mRet (MdP 11)) :: zBig := rfl
theorem iw_11 : ∀ w ∈ zBig, w ∈ mWs (MdP 11) := fun w h => List.mem_cons_of_mem _ h
theorem hws_12 : mWs (MdP 12) = Cond.code (mNam (MdP 12)) (mCod (MdP 12)) (mMax (MdP 12)) (mRet (MdP 12)) :: zBig := rfl
theorem iw_12 : ∀ w ∈ zBig, w ∈ mWs (MdP 12) := fun w h => List.mem_cons_of_mem _ h
theorem hws_13 : mWs (MdP 13) = Cond.code (mNam (MdP 13)) (mCod (MdP 13)) (mMax (MdP 13)) (mRet (MdP 13)) :: zBig := rfl
theorem iw_13 : ∀ w ∈ zBig, w ∈ mWs (MdP 13) := fun w h => List.mem_cons_of_mem _ h
theorem hws_14 : mWs (MdP 14) = Cond.code (mNam (MdP 14)) (mCod (MdP 14)) (mMax (MdP 14)) (mRet (MdP 14)) :: zBig := rfl
theorem iw_14 : ∀ w ∈ zBig, w ∈ mWs (MdP 14) := fun w h => List.mem_cons_of_mem _ h
theorem hws_15 : mWs (MdP 15) = Cond.code (mNam (MdP 15)) (mCod (MdP 15)) (mMax (MdP 15)) (mRet (MdP 15)) :: zBig := rfl
theorem iw_15 : ∀ w ∈ zBig, w ∈ mWs (MdP 15) := fun w h => List.mem_cons_of_mem _ h
theorem hws_16 : mWs (MdP 16) = Cond.code (mNam (MdP 16)) (mCod (MdP 16)) (mMax (MdP 16)) (mRet (MdP 16)) :: zBig := rfl
theorem iw_16 : ∀ w ∈ zBig, w ∈ mWs (MdP 16) := fun w h => List.mem_cons_of_mem _ h
theorem hws_17 : mWs (MdP 17) = Cond.code (mNam (MdP 17)) (mCod (MdP 17)) (mMax (MdP 17)) (mRet (MdP 17)) :: zBig := rfl
theorem iw_17 : ∀ w ∈ zBig, w ∈ mWs (MdP 17) := fun w h => List.mem_cons_of_mem _ h
theorem hws_18 : mWs (MdP 18) = Cond.code (mNam (MdP 18)) (mCod (MdP 18)) (mMax (MdP 18)) (mRet (MdP 18)) :: zBig := rfl
theorem iw_18 : ∀ w ∈ zBig, w ∈ mWs (MdP 18) := fun w h => List.mem_cons_of_mem _ h
theorem hws_19 : mWs (MdP 19) = Cond.code (mNam (MdP 19)) (mCod (MdP 19)) (mMax (MdP 19)) (mRet (MdP 19)) :: zBig := rfl
theorem iw_19 : ∀ w ∈ zBig, w ∈ mWs (MdP 19) := fun w h => List.mem_cons_of_mem _ h
theorem hws_20 : mWs (MdP 20) = Cond.code (mNam (MdP 20)) (mCod (MdP 20)) (mMax (MdP 20)) (mRet (MdP 20)) :: zBig := rfl
theorem iw_20 : ∀ w ∈ zBig, w ∈ mWs (MdP 20) := fun w h => List.mem_cons_of_mem _ h
theorem hws_21 : mWs (MdP 21) = Cond.code (mNam (MdP 21)) (mCod (MdP 21)) (mMax (MdP 21)) (mRet (MdP 21)) :: zBig := rfl
theorem iw_21 : ∀ w ∈ zBig, w ∈ mWs (MdP 21) := fun w h => List.mem_cons_of_mem _ h
theorem hws_22 : mWs (MdP 22) = Cond.code (mNam (MdP 22)) (mCod (MdP 22)) (mMax (MdP 22)) (mRet (MdP 22)) :: zBig := rfl
theorem iw_22 : ∀ w ∈ zBig, w ∈ mWs (MdP 22) := fun w h => List.mem_cons_of_mem _ h
theorem hws_23 : mWs (MdP 23) = Cond.code (mNam (MdP 23)) (mCod (MdP 23)) (mMax (MdP 23)) (mRet (MdP 23)) :: zBig := rfl
theorem iw_23 : ∀ w ∈ zBig, w ∈ mWs (MdP 23) := fun w h => List.mem_cons_of_mem _ h
theorem hws_24 : mWs (MdP 24) = Cond.code (mNam (MdP 24)) (mCod (MdP 24)) (mMax (MdP 24)) (mRet (MdP 24)) :: zBig := rfl
theorem iw_24 : ∀ w ∈ zBig, w ∈ mWs (MdP 24) := fun w h => List.mem_cons_of_mem _ h
theorem hws_25 : mWs (MdP 25) = Cond.code (mNam (MdP 25)) (mCod (MdP 25)) (mMax (MdP 25)) (mRet (MdP 25)) :: zBig := rfl
theorem iw_25 : ∀ w ∈ zBig, w ∈ mWs (MdP 25) := fun w h => List.mem_cons_of_mem _ h
theorem hws_26 : mWs (MdP 26) = Cond.code (mNam (MdP 26)) (mCod (MdP 26)) (mMax (MdP 26)) (mRet (MdP 26)) :: zBig := rfl
theorem iw_26 : ∀ w ∈ zBig, w ∈ mWs (MdP 26) := fun w h => List.mem_cons_of_mem _ h
theorem hws_27 : mWs (MdP 27) = Cond.code (mNam (MdP 27)) (mCod (MdP 27)) (mMax (MdP 27)) (mRet (MdP 27)) :: zBig := rfl
theorem iw_27 : ∀ w ∈ zBig, w ∈ mWs (MdP 27) := fun w h => List.mem_cons_of_mem _ h
theorem hws_28 : mWs (MdP 28) = Cond.code (mNam (MdP 28)) (mCod (MdP 28)) (mMax (MdP 28)) (mRet (MdP 28)) :: zBig := rfl
theorem iw_28 : ∀ w ∈ zBig, w ∈ mWs (MdP 28) := fun w h => List.mem_cons_of_mem _ h
theorem hws_29 : mWs (MdP 29) = Cond.code (mNam (MdP 29)) (mCod (MdP 29)) (mMax (MdP 29)) (mRet (MdP 29)) :: zBig := rfl
theorem iw_29 : ∀ w ∈ zBig, w ∈ mWs (MdP 29) := fun w h => List.mem_cons_of_mem _ h
theorem hws_30 : mWs (MdP 30) = Cond.code (mNam (MdP 30)) (mCod (MdP 30)) (mMax (MdP 30)) (mRet (MdP 30)) :: zBig := rfl
theorem iw_30 : ∀ w ∈ zBig, w ∈ mWs (MdP 30) := fun w h => List.mem_cons_of_mem _ h
theorem hws_31 : mWs (MdP 31) = Cond.code (mNam (MdP 31)) (mCod (MdP 31)) (mMax (MdP 31)) (mRet (MdP 31)) :: zBig := rfl
theorem iw_31 : ∀ w ∈ zBig, w ∈ mWs (MdP 31) := fun w h => List.mem_cons_of_mem _ h
theorem hws_32 : mWs (MdP 32) = Cond.code (mNam (MdP 32)) (mCod (MdP 32)) (mMax (MdP 32)) (mRet (MdP 32)) :: zBig := rfl
theorem iw_32 : ∀ w ∈ zBig, w ∈ mWs (MdP 32) := fun w h => List.mem_cons_of_mem _ h
theorem hws_33 : mWs (MdP 33) = Cond.code (mNam (MdP 33)) (mCod (MdP 33)) (mMax (MdP 33)) (mRet (MdP 33)) :: zBig := rfl
theorem iw_33 : ∀ w ∈ zBig, w ∈ mWs (MdP 33) := fun w h => List.mem_cons_of_mem _ h
theorem hws_34 : mWs (MdP 34) = Cond.code (mNam (MdP 34)) (mCod (MdP 34)) (mMax (MdP 34)) (mRet (MdP 34)) :: zBig := rfl
theorem iw_34 : ∀ w ∈ zBig, w ∈ mWs (MdP 34) := fun w h => List.mem_cons_of_mem _ h
theorem hws_35 : mWs (MdP 35) = Cond.code (mNam (MdP 35)) (mCod (MdP 35)) (mMax (MdP 35)) (mRet (MdP 35)) :: zBig := rfl
theorem iw_35 : ∀ w ∈ zBig, w ∈ mWs (MdP 35) := fun w h => List.mem_cons_of_mem _ h
theorem hws_36 : mWs (MdP 36) = Cond.code (mNam (MdP 36)) (mCod (MdP 36)) (mMax (MdP 36)) (mRet (MdP 36)) :: zBig := rfl
theorem iw_36 : ∀ w ∈ zBig, w ∈ mWs (MdP 36) := fun w h => List.mem_cons_of_mem _ h
theorem hws_37 : mWs (MdP 37) = Cond.code (mNam (MdP 37)) (mCod (MdP 37)) (mMax (MdP 37)) (mRet (MdP 37)) :: zBig := rfl
theorem iw_37 : ∀ w ∈ zBig, w ∈ mWs (MdP 37) := fun w h => List.mem_cons_of_mem _ h
theorem hws_38 : mWs (MdP 38) = Cond.code (mNam (MdP 38)) (mCod (MdP 38)) (mMax (MdP 38)) (mRet (MdP 38)) :: zBig := rfl
theorem iw_38 : ∀ w ∈ zBig, w ∈ mWs (MdP 38) := fun w h => List.mem_cons_of_mem _ h
theorem hws_39 : mWs (MdP 39) = Cond.code (mNam (MdP 39)) (mCod (MdP 39)) (mMax (MdP 39)) (mRet (MdP 39)) :: zBig := rfl
theorem iw_39 : ∀ w ∈ zBig, w ∈ mWs (MdP 39) := fun w h => List.mem_cons_of_mem _ h
theorem hws_40 : mWs (MdP 40) = Cond.code (mNam (MdP 40)) (mCod (MdP 40)) (mMax (MdP 40)) (mRet (MdP 40)) :: zBig := rfl
theorem iw_40 : ∀ w ∈ zBig, w ∈ mWs (MdP 40) := fun w h => List.mem_cons_of_mem _ h
theorem hws_41 : mWs (MdP 41) = Cond.code (mNam (MdP 41)) (mCod (MdP 41)) (mMax (MdP 41)) (mRet (MdP 41)) :: zBig := rfl
theorem iw_41 : ∀ w ∈ zBig, w ∈ mWs (MdP 41) := fun w h => List.mem_cons_of_mem _ h
theorem hws_42 : mWs (MdP 42) = Cond.code (mNam (MdP 42)) (mCod (MdP 42)) (mMax (MdP 42)) (mRet (MdP 42)) :: zBig := rfl
theorem iw_42 : ∀ w ∈ zBig, w ∈ mWs (MdP 42) := fun w h => List.mem_cons_of_mem _ h
theorem hws_43 : mWs (MdP 43) = Cond.code (mNam (MdP 43)) (mCod (MdP 43)) (mMax (MdP 43)) (mRet (MdP 43)) :: zBig := rfl
theorem iw_43 : ∀ w ∈ zBig, w ∈ mWs (MdP 43) := fun w h => List.mem_cons_of_mem _ h
theorem hws_44 : mWs (MdP 44) = Cond.code (mNam (MdP 44)) (mCod (MdP 44)) (mMax (MdP 44)) (mRet (MdP 44)) :: zBig := rfl
theorem iw_44 : ∀ w ∈ zBig, w ∈ mWs (MdP 44) := fun w h => List.mem_cons_of_mem _ h
theorem hws_45 : mWs (MdP 45) = Cond.code (mNam (MdP 45)) (mCod (MdP 45)) (mMax (MdP 45)) (mRet (MdP 45)) :: zBig := rfl
theorem iw_45 : ∀ w ∈ zBig, w ∈ mWs (MdP 45) := fun w h => List.mem_cons_of_mem _ h
theorem hws_46 : mWs (MdP 46) = Cond.code (mNam (MdP 46)) (mCod (MdP 46)) (mMax (MdP 46)) (mRet (MdP 46)) :: zBig := rfl
theorem iw_46 : ∀ w ∈ zBig, w ∈ mWs (MdP 46) := fun w h => List.mem_cons_of_mem _ h
theorem hws_47 : mWs (MdP 47) = Cond.code (mNam (MdP 47)) (mCod (MdP 47)) (mMax (MdP 47)) (mRet (MdP 47)) :: zBig := rfl
theorem iw_47 : ∀ w ∈ zBig, w ∈ mWs (MdP 47) := fun w h => List.mem_cons_of_mem _ h
theorem hws_48 : mWs (MdP 48) = Cond.code (mNam (MdP 48)) (mCod (MdP 48)) (mMax (MdP 48)) (mRet (MdP 48)) :: zBig := rfl
theorem iw_48 : ∀ w ∈ zBig, w ∈ mWs (MdP 48) := fun w h => List.mem_cons_of_mem _ h
theorem hws_49 : mWs (MdP 49) = Cond.code (mNam (MdP 49)) (mCod (MdP 49)) (mMax (MdP 49)) (mRet (MdP 49)) :: zBig := rfl
theorem iw_49 : ∀ w ∈ zBig, w ∈ mWs (MdP 49) := fun w h => List.mem_cons_of_mem _ h
theorem hws_50 : mWs (MdP 50) = Cond.code (mNam (MdP 50)) (mCod (MdP 50)) (mMax (MdP 50)) (mRet (MdP 50)) :: zBig := rfl
theorem iw_50 : ∀ w ∈ zBig, w ∈ mWs (MdP 50) := fun w h => List.mem_cons_of_mem _ h
theorem hws_51 : mWs (MdP 51) = Cond.code (mNam (MdP 51)) (mCod (MdP 51)) (mMax (MdP 51)) (mRet (MdP 51)) :: zBig := rfl
theorem iw_51 : ∀ w ∈ zBig, w ∈ mWs (MdP 51) := fun w h => List.mem_cons_of_mem _ h
theorem hws_52 : mWs (MdP 52) = Cond.code (mNam (MdP 52)) (mCod (MdP 52)) (mMax (MdP 52)) (mRet (MdP 52)) :: zBig := rfl
theorem iw_52 : ∀ w ∈ zBig, w ∈ mWs (MdP 52) := fun w h => List.mem_cons_of_mem _ h
theorem hws_53 : mWs (MdP 53) = Cond.code (mNam (MdP 53)) (mCod (MdP 53)) (mMax (MdP 53)) (mRet (MdP 53)) :: zBig := rfl
theorem iw_53 : ∀ w ∈ zBig, w ∈ mWs (MdP 53) := fun w h => List.mem_cons_of_mem _ h
theorem hws_54 : mWs (MdP 54) = Cond.code (mNam (MdP 54)) (mCod (MdP 54)) (mMax (MdP 54)) (mRet (MdP 54)) :: zBig := rfl
theorem iw_54 : ∀ w ∈ zBig, w ∈ mWs (MdP 54) := fun w h => List.mem_cons_of_mem _ h
theorem hws_55 : mWs (MdP 55) = Cond.code (mNam (MdP 55)) (mCod (MdP 55)) (mMax (MdP 55)) (mRet (MdP 55)) :: zBig := rfl
theorem iw_55 : ∀ w ∈ zBig, w ∈ mWs (MdP 55) := fun w h => List.mem_cons_of_mem _ h
theorem hws_56 : mWs (MdP 56) = Cond.code (mNam (MdP 56)) (mCod (MdP 56)) (mMax (MdP 56)) (mRet (MdP 56)) :: zBig := rfl
theorem iw_56 : ∀ w ∈ zBig, w ∈ mWs (MdP 56) := fun w h => List.mem_cons_of_mem _ h
theorem hws_57 : mWs (MdP 57) = Cond.code (mNam (MdP 57)) (mCod (MdP 57)) (mMax (MdP 57)) (mRet (MdP 57)) :: zBig := rfl
theorem iw_57 : ∀ w ∈ zBig, w ∈ mWs (MdP 57) := fun w h => List.mem_cons_of_mem _ h
theorem hws_58 : mWs (MdP 58) = Cond.code (mNam (MdP 58)) (mCod (MdP 58)) (mMax (MdP 58)) (mRet (MdP 58)) :: zBig := rfl
theorem iw_58 : ∀ w ∈ zBig, w ∈ mWs (MdP 58) := fun w h => List.mem_cons_of_mem _ h
theorem hws_59 : mWs (MdP 59) = Cond.code (mNam (MdP 59)) (mCod (MdP 59)) (mMax (MdP 59)) (mRet (MdP 59)) :: zBig := rfl
theorem iw_59 : ∀ w ∈ zBig, w ∈ mWs (MdP 59) := fun w h => List.mem_cons_of_mem _ h
theorem hws_60 : mWs (MdP 60) = Cond.code (mNam (MdP 60)) (mCod (MdP 60)) (mMax (MdP 60)) (mRet (MdP 60)) :: zBig := rfl
theorem iw_60 : ∀ w ∈ zBig, w ∈ mWs (MdP 60) := fun w h => List.mem_cons_of_mem _ h
theorem hws_61 : mWs (MdP 61) = Cond.code (mNam (MdP 61)) (mCod (MdP 61)) (mMax (MdP 61)) (mRet (MdP 61)) :: zBig := rfl
theorem iw_61 : ∀ w ∈ zBig, w ∈ mWs (MdP 61) := fun w h => List.mem_cons_of_mem _ h
theorem hws_62 : mWs (MdP 62) = Cond.code (mNam (MdP 62)) (mCod (MdP 62)) (mMax (MdP 62)) (mRet (MdP 62)) :: zBig := rfl
theorem iw_62 : ∀ w ∈ zBig, w ∈ mWs (MdP 62) := fun w h => List.mem_cons_of_mem _ h
theorem hws_63 : mWs (MdP 63) = Cond.code (mNam (MdP 63)) (mCod (MdP 63)) (mMax (MdP 63)) (mRet (MdP 63)) :: zBig := rfl
theorem iw_63 : ∀ w ∈ zBig, w ∈ mWs (MdP 63) := fun w h => List.mem_cons_of_mem _ h
theorem hws_64 : mWs (MdP 64) = Cond.code (mNam (MdP 64)) (mCod (MdP 64)) (mMax (MdP 64)) (mRet (MdP 64)) :: zBig := rfl
theorem iw_64 : ∀ w ∈ zBig, w ∈ mWs (MdP 64) := fun w h => List.mem_cons_of_mem _ h
theorem hws_65 : mWs (MdP 65) = Cond.code (mNam (MdP 65)) (mCod (MdP 65)) (mMax (MdP 65)) (mRet (MdP 65)) :: zBig := rfl
theorem iw_65 : ∀ w ∈ zBig, w ∈ mWs (MdP 65) := fun w h => List.mem_cons_of_mem _ h
theorem hws_66 : mWs (MdP 66) = Cond.code (mNam (MdP 66)) (mCod (MdP 66)) (mMax (MdP 66)) (mRet (MdP 66)) :: zBig := rfl
theorem iw_66 : ∀ w ∈ zBig, w ∈ mWs (MdP 66) := fun w h => List.mem_cons_of_mem _ h
theorem hws_67 : mWs (MdP 67) = Cond.code (mNam (MdP 67)) (mCod (MdP 67)) (mMax (MdP 67)) (mRet (MdP 67)) :: zBig := rfl
theorem iw_67 : ∀ w ∈ zBig, w ∈ mWs (MdP 67) := fun w h => List.mem_cons_of_mem _ h
theorem hws_68 : mWs (MdP 68) = Cond.code (mNam (MdP 68)) (mCod (MdP 68)) (mMax (MdP 68)) (mRet (MdP 68)) :: zBig := rfl
theorem iw_68 : ∀ w ∈ zBig, w ∈ mWs (MdP 68) := fun w h => List.mem_cons_of_mem _ h
theorem hws_69 : mWs (MdP 69) = Cond.code (mNam (MdP 69)) (mCod (MdP 69)) (mMax (MdP 69)) (mRet (MdP 69)) :: zBig := rfl
theorem iw_69 : ∀ w ∈ zBig, w ∈ mWs (MdP 69) := fun w h => List.mem_cons_of_mem _ h
theorem hws_70 : mWs (MdP 70) = Cond.code (mNam (MdP 70)) (mCod (MdP 70)) (mMax (MdP 70)) (mRet (MdP 70)) :: zBig := rfl
theorem iw_70 : ∀ w ∈ zBig, w ∈ mWs (MdP 70) := fun w h => List.mem_cons_of_mem _ h
theorem hws_71 : mWs (MdP 71) = Cond.code (mNam (MdP 71)) (mCod (MdP 71)) (mMax (MdP 71)) (mRet (MdP 71)) :: zBig := rfl
theorem iw_71 : ∀ w ∈ zBig, w ∈ mWs (MdP 71) := fun w h => List.mem_cons_of_mem _ h
theorem hws_72 : mWs (MdP 72) = Cond.code (mNam (MdP 72)) (mCod (MdP 72)) (mMax (MdP 72)) (mRet (MdP 72)) :: zBig := rfl
theorem iw_72 : ∀ w ∈ zBig, w ∈ mWs (MdP 72) := fun w h => List.mem_cons_of_mem _ h
theorem hws_73 : mWs (MdP 73) = Cond.code (mNam (MdP 73)) (mCod (MdP 73)) (mMax (MdP 73)) (mRet (MdP 73)) :: zBig := rfl
theorem iw_73 : ∀ w ∈ zBig, w ∈ mWs (MdP 73) := fun w h => List.mem_cons_of_mem _ h
theorem hws_74 : mWs (MdP 74) = Cond.code (mNam (MdP 74)) (mCod (MdP 74)) (mMax (MdP 74)) (mRet (MdP 74)) :: zBig := rfl
theorem iw_74 : ∀ w ∈ zBig, w ∈ mWs (MdP 74) := fun w h => List.mem_cons_of_mem _ h
theorem hws_75 : mWs (MdP 75) = Cond.code (mNam (MdP 75)) (mCod (MdP 75)) (mMax (MdP 75)) (mRet (MdP 75)) :: zBig := rfl
theorem iw_75 : ∀ w ∈ zBig, w ∈ mWs (MdP 75) := fun w h => List.mem_cons_of_mem _ h
theorem hws_76 : mWs (MdP 76) = Cond.code (mNam (MdP 76)) (mCod (MdP 76)) (mMax (MdP 76)) (mRet (MdP 76)) :: zBig := rfl
theorem iw_76 : ∀ w ∈ zBig, w ∈ mWs (MdP 76) := fun w h => List.mem_cons_of_mem _ h
theorem hws_77 : mWs (MdP 77) = Cond.code (mNam (MdP 77)) (mCod (MdP 77)) (mMax (MdP 77)) (mRet (MdP 77)) :: zBig := rfl
theorem iw_77 : ∀ w ∈ zBig, w ∈ mWs (MdP 77) := fun w h => List.mem_cons_of_mem _ h
theorem hws_78 : mWs (MdP 78) = Cond.code (mNam (MdP 78)) (mCod (MdP 78)) (mMax (MdP 78)) (mRet (MdP 78)) :: zBig := rfl
theorem iw_78 : ∀ w ∈ zBig, w ∈ mWs (MdP 78) := fun w h => List.mem_cons_of_mem _ h
theorem hws_79 : mWs (MdP 79) = Cond.code (mNam (MdP 79)) (mCod (MdP 79)) (mMax (MdP 79)) (mRet (MdP 79)) :: zBig := rfl
theorem iw_79 : ∀ w ∈ zBig, w ∈ mWs (MdP 79) := fun w h => List.mem_cons_of_mem _ h
theorem hws_80 : mWs (MdP 80) = Cond.code (mNam (MdP 80)) (mCod (MdP 80)) (mMax (MdP 80)) (mRet (MdP 80)) :: zBig := rfl
theorem iw_80 : ∀ w ∈ zBig, w ∈ mWs (MdP 80) := fun w h => List.mem_cons_of_mem _ h
theorem hws_81 : mWs (MdP 81) = Cond.code (mNam (MdP 81)) (mCod (MdP 81)) (mMax (MdP 81)) (mRet (MdP 81)) :: zBig := rfl
theorem iw_81 : ∀ w ∈ zBig, w ∈ mWs (MdP 81) := fun w h => List.mem_cons_of_mem _ h
theorem hws_82 : mWs (MdP 82) = Cond.code (mNam (MdP 82)) (mCod (MdP 82)) (mMax (MdP 82)) (mRet (MdP 82)) :: zBig := rfl
theorem iw_82 : ∀ w ∈ zBig, w ∈ mWs (MdP 82) := fun w h => List.mem_cons_of_mem _ h
theorem hws_83 : mWs (MdP 83) = Cond.code (mNam (MdP 83)) (mCod (MdP 83)) (mMax (MdP 83)) (mRet (MdP 83)) :: zBig := rfl
theorem iw_83 : ∀ w ∈ zBig, w ∈ mWs (MdP 83) := fun w h => List.mem_cons_of_mem _ h
theorem hws_84 : mWs (MdP 84) = Cond.code (mNam (MdP 84)) (mCod (MdP 84)) (mMax (MdP 84)) (mRet (MdP 84)) :: zBig := rfl
theorem iw_84 : ∀ w ∈ zBig, w ∈ mWs (MdP 84) := fun w h => List.mem_cons_of_mem _ h
theorem hws_85 : mWs (MdP 85) = Cond.code (mNam (MdP 85)) (mCod (MdP 85)) (mMax (MdP 85)) (mRet (MdP 85)) :: zBig := rfl
theorem iw_85 : ∀ w ∈ zBig, w ∈ mWs (MdP 85) := fun w h => List.mem_cons_of_mem _ h
theorem hws_86 : mWs (MdP 86) = Cond.code (mNam (MdP 86)) (mCod (MdP 86)) (mMax (MdP 86)) (mRet (MdP 86)) :: zBig := rfl
theorem iw_86 : ∀ w ∈ zBig, w ∈ mWs (MdP 86) := fun w h => List.mem_cons_of_mem _ h
theorem hws_87 : mWs (MdP 87) = Cond.code (mNam (MdP 87)) (mCod (MdP 87)) (mMax (MdP 87)) (mRet (MdP 87)) :: zBig := rfl
theorem iw_87 : ∀ w ∈ zBig, w ∈ mWs (MdP 87) := fun w h => List.mem_cons_of_mem _ h
theorem hws_88 : mWs (MdP 88) = Cond.code (mNam (MdP 88)) (mCod (MdP 88)) (mMax (MdP 88)) (mRet (MdP 88)) :: zBig := rfl
theorem iw_88 : ∀ w ∈ zBig, w ∈ mWs (MdP 88) := fun w h => List.mem_cons_of_mem _ h
theorem hws_89 : mWs (MdP 89) = Cond.code (mNam (MdP 89)) (mCod (MdP 89)) (mMax (MdP 89)) (mRet (MdP 89)) :: zBig := rfl
theorem iw_89 : ∀ w ∈ zBig, w ∈ mWs (MdP 89) := fun w h => List.mem_cons_of_mem _ h
theorem hws_90 : mWs (MdP 90) = Cond.code (mNam (MdP 90)) (mCod (MdP 90)) (mMax (MdP 90)) (mRet (MdP 90)) :: zBig := rfl
theorem iw_90 : ∀ w ∈ zBig, w ∈ mWs (MdP 90) := fun w h => List.mem_cons_of_mem _ h
theorem hws_91 : mWs (MdP 91) = Cond.code (mNam (MdP 91)) (mCod (MdP 91)) (mMax (MdP 91)) (mRet (MdP 91)) :: zBig := rfl
theorem iw_91 : ∀ w ∈ zBig, w ∈ mWs (MdP 91) := fun w h => List.mem_cons_of_mem _ h
theorem hws_92 : mWs (MdP 92) = Cond.code (mNam (MdP 92)) (mCod (MdP 92)) (mMax (MdP 92)) (mRet (MdP 92)) :: zBig := rfl
theorem iw_92 : ∀ w ∈ zBig, w ∈ mWs (MdP 92) := fun w h => List.mem_cons_of_mem _ h
theorem hws_93 : mWs (MdP 93) = Cond.code (mNam (MdP 93)) (mCod (MdP 93)) (mMax (MdP 93)) (mRet (MdP 93)) :: zBig := rfl
theorem iw_93 : ∀ w ∈ zBig, w ∈ mWs (MdP 93) := fun w h => List.mem_cons_of_mem _ h
theorem hws_94 : mWs (MdP 94) = Cond.code (mNam (MdP 94)) (mCod (MdP 94)) (mMax (MdP 94)) (mRet (MdP 94)) :: zBig := rfl
theorem iw_94 : ∀ w ∈ zBig, w ∈ mWs (MdP 94) := fun w h => List.mem_cons_of_mem _ h
theorem hws_95 : mWs (MdP 95) = Cond.code (mNam (MdP 95)) (mCod (MdP 95)) (mMax (MdP 95)) (mRet (MdP 95)) :: zBig := rfl
theorem iw_95 : ∀ w ∈ zBig, w ∈ mWs (MdP 95) := fun w h => List.mem_cons_of_mem _ h
theorem hws_96 : mWs (MdP 96) = Cond.code (mNam (MdP 96)) (mCod (MdP 96)) (mMax (MdP 96)) (mRet (MdP 96)) :: zBig := rfl
theorem iw_96 : ∀ w ∈ zBig, w ∈ mWs (MdP 96) := fun w h => List.mem_cons_of_mem _ h
theorem hws_97 : mWs (MdP 97) = Cond.code (mNam (MdP 97)) (mCod (MdP 97)) (mMax (MdP 97)) (mRet (MdP 97)) :: zBig := rfl
theorem iw_97 : ∀ w ∈ zBig, w ∈ mWs (MdP 97) := fun w h => List.mem_cons_of_mem _ h
theorem hws_98 : mWs (MdP 98) = Cond.code (mNam (MdP 98)) (mCod (MdP 98)) (mMax (MdP 98)) (mRet (MdP 98)) :: zBig := rfl
theorem iw_98 : ∀ w ∈ zBig, w ∈ mWs (MdP 98) := fun w h => List.mem_cons_of_mem _ h
theorem hws_99 : mWs (MdP 99) = Cond.code (mNam (MdP 99)) (mCod (MdP 99)) (mMax (MdP 99)) (mRet (MdP 99)) :: zBig := rfl
theorem iw_99 : ∀ w ∈ zBig, w ∈ mWs (MdP 99) := fun w h => List.mem_cons_of_mem _ h
theorem hws_100 : mWs (MdP 100) = Cond.code (mNam (MdP 100)) (mCod (MdP 100)) (mMax (MdP 100)) (mRet (MdP 100)) :: zBig := rfl
theorem iw_100 : ∀ w ∈ zBig, w ∈ mWs (MdP 100) := fun w h => List.mem_cons_of_mem _ h
theorem hws_101 : mWs (MdP 101) = Cond.code (mNam (MdP 101)) (mCod (MdP 101)) (mMax (MdP 101)) (mRet (MdP 101)) :: zBig := rfl
theorem iw_101 : ∀ w ∈ zBig, w ∈ mWs (MdP 101) := fun w h => List.mem_cons_of_mem _ h
theorem hws_102 : mWs (MdP 102) = Cond.code (mNam (MdP 102)) (mCod (MdP 102)) (mMax (MdP 102)) (mRet (MdP 102)) :: zBig := rfl
theorem iw_102 : ∀ w ∈ zBig, w ∈ mWs (MdP 102) := fun w h => List.mem_cons_of_mem _ h
theorem hws_103 : mWs (MdP 103) = Cond.code (mNam (MdP 103)) (mCod (MdP 103)) (mMax (MdP 103)) (mRet (MdP 103)) :: zBig := rfl
theorem iw_103 : ∀ w ∈ zBig, w ∈ mWs (MdP 103) := fun w h => List.mem_cons_of_mem _ h
theorem hws_104 : mWs (MdP 104) = Cond.code (mNam (MdP 104)) (mCod (MdP 104)) (mMax (MdP 104)) (mRet (MdP 104)) :: zBig := rfl
theorem iw_104 : ∀ w ∈ zBig, w ∈ mWs (MdP 104) := fun w h => List.mem_cons_of_mem _ h
theorem hws_105 : mWs (MdP 105) = Cond.code (mNam (MdP 105)) (mCod (MdP 105)) (mMax (MdP 105)) (mRet (MdP 105)) :: zBig := rfl
theorem iw_105 : ∀ w ∈ zBig, w ∈ mWs (MdP 105) := fun w h => List.mem_cons_of_mem _ h
theorem hws_106 : mWs (MdP 106) = Cond.code (mNam (MdP 106)) (mCod (MdP 106)) (mMax (MdP 106)) (mRet (MdP 106)) :: zBig := rfl
theorem iw_106 : ∀ w ∈ zBig, w ∈ mWs (MdP 106) := fun w h => List.mem_cons_of_mem _ h
theorem hws_107 : mWs (MdP 107) = Cond.code (mNam (MdP 107)) (mCod (MdP 107)) (mMax (MdP 107)) (mRet (MdP 107)) :: zBig := rfl
theorem iw_107 : ∀ w ∈ zBig, w ∈ mWs (MdP 107) := fun w h => List.mem_cons_of_mem _ h
theorem hws_108 : mWs (MdP 108) = Cond.code (mNam (MdP 108)) (mCod (MdP 108)) (mMax (MdP 108)) (mRet (MdP 108)) :: zBig := rfl
theorem iw_108 : ∀ w ∈ zBig, w ∈ mWs (MdP 108) := fun w h => List.mem_cons_of_mem _ h
theorem hws_109 : mWs (MdP 109) = Cond.code (mNam (MdP 109)) (mCod (MdP 109)) (mMax (MdP 109)) (mRet (MdP 109)) :: zBig := rfl
theorem iw_109 : ∀ w ∈ zBig, w ∈ mWs (MdP 109) := fun w h => List.mem_cons_of_mem _ h
theorem hws_110 : mWs (MdP 110) = Cond.code (mNam (MdP 110)) (mCod (MdP 110)) (mMax (MdP 110)) (mRet (MdP 110)) :: zBig := rfl
theorem iw_110 : ∀ w ∈ zBig, w ∈ mWs (MdP 110) := fun w h => List.mem_cons_of_mem _ h
theorem hws_111 : mWs (MdP 111) = Cond.code (mNam (MdP 111)) (mCod (MdP 111)) (mMax (MdP 111)) (mRet (MdP 111)) :: zBig := rfl
theorem iw_111 : ∀ w ∈ zBig, w ∈ mWs (MdP 111) := fun w h => List.mem_cons_of_mem _ h
theorem hws_112 : mWs (MdP 112) = Cond.code (mNam (MdP 112)) (mCod (MdP 112)) (mMax (MdP 112)) (mRet (MdP 112)) :: zBig := rfl
theorem iw_112 : ∀ w ∈ zBig, w ∈ mWs (MdP 112) := fun w h => List.mem_cons_of_mem _ h
theorem hws_113 : mWs (MdP 113) = Cond.code (mNam (MdP 113)) (mCod (MdP 113)) (mMax (MdP 113)) (mRet (MdP 113)) :: zBig := rfl
theorem iw_113 : ∀ w ∈ zBig, w ∈ mWs (MdP 113) := fun w h => List.mem_cons_of_mem _ h
theorem hws_114 : mWs (MdP 114) = Cond.code (mNam (MdP 114)) (mCod (MdP 114)) (mMax (MdP 114)) (mRet (MdP 114)) :: zBig := rfl
theorem iw_114 : ∀ w ∈ zBig, w ∈ mWs (MdP 114) := fun w h => List.mem_cons_of_mem _ h
theorem hws_115 : mWs (MdP 115) = Cond.code (mNam (MdP 115)) (mCod (MdP 115)) (mMax (MdP 115)) (mRet (MdP 115)) :: zBig := rfl
theorem iw_115 : ∀ w ∈ zBig, w ∈ mWs (MdP 115) := fun w h => List.mem_cons_of_mem _ h
theorem hws_116 : mWs (MdP 116) = Cond.code (mNam (MdP 116)) (mCod (MdP 116)) (mMax (MdP 116)) (mRet (MdP 116)) :: zBig := rfl
theorem iw_116 : ∀ w ∈ zBig, w ∈ mWs (MdP 116) := fun w h => List.mem_cons_of_mem _ h
theorem hws_117 : mWs (MdP 117) = Cond.code (mNam (MdP 117)) (mCod (MdP 117)) (mMax (MdP 117)) (mRet (MdP 117)) :: zBig := rfl
theorem iw_117 : ∀ w ∈ zBig, w ∈ mWs (MdP 117) := fun w h => List.mem_cons_of_mem _ h
theorem hws_118 : mWs (MdP 118) = Cond.code (mNam (MdP 118)) (mCod (MdP 118)) (mMax (MdP 118)) (mRet (MdP 118)) :: zBig := rfl
theorem iw_118 : ∀ w ∈ zBig, w ∈ mWs (MdP 118) := fun w h => List.mem_cons_of_mem _ h
theorem hws_119 : mWs (MdP 119) = Cond.code (mNam (MdP 119)) (mCod (MdP 119)) (mMax (MdP 119)) (mRet (MdP 119)) :: zBig := rfl
theorem iw_119 : ∀ w ∈ zBig, w ∈ mWs (MdP 119) := fun w h => List.mem_cons_of_mem _ h
theorem hws_120 : mWs (MdP 120) = Cond.code (mNam (MdP 120)) (mCod (MdP 120)) (mMax (MdP 120)) (mRet (MdP 120)) :: zBig := rfl
theorem iw_120 : ∀ w ∈ zBig, w ∈ mWs (MdP 120) := fun w h => List.mem_cons_of_mem _ h
theorem hws_121 : mWs (MdP 121) = Cond.code (mNam (MdP 121)) (mCod (MdP 121)) (mMax (MdP 121)) (mRet (MdP 121)) :: zBig := rfl
theorem iw_121 : ∀ w ∈ zBig, w ∈ mWs (MdP 121) := fun w h => List.mem_cons_of_mem _ h
theorem hws_122 : mWs (MdP 122) = Cond.code (mNam (MdP 122)) (mCod (MdP 122)) (mMax (MdP 122)) (mRet (MdP 122)) :: zBig := rfl
theorem iw_122 : ∀ w ∈ zBig, w ∈ mWs (MdP 122) := fun w h => List.mem_cons_of_mem _ h
theorem hws_123 : mWs (MdP 123) = Cond.code (mNam (MdP 123)) (mCod (MdP 123)) (mMax (MdP 123)) (mRet (MdP 123)) :: zBig := rfl
theorem iw_123 : ∀ w ∈ zBig, w ∈ mWs (MdP 123) := fun w h => List.mem_cons_of_mem _ h
theorem hws_124 : mWs (MdP 124) = Cond.code (mNam (MdP 124)) (mCod (MdP 124)) (mMax (MdP 124)) (mRet (MdP 124)) :: zBig := rfl
theorem iw_124 : ∀ w ∈ zBig, w ∈ mWs (MdP 124) := fun w h => List.mem_cons_of_mem _ h
theorem hws_125 : mWs (MdP 125) = Cond.code (mNam (MdP 125)) (mCod (MdP 125)) (mMax (MdP 125)) (mRet (MdP 125)) :: zBig := rfl
theorem iw_125 : ∀ w ∈ zBig, w ∈ mWs (MdP 125) := fun w h => List.mem_cons_of_mem _ h
theorem hws_126 : mWs (MdP 126) = Cond.code (mNam (MdP 126)) (mCod (MdP 126)) (mMax (MdP 126)) (mRet (MdP 126)) :: zBig := rfl
theorem iw_126 : ∀ w ∈ zBig, w ∈ mWs (MdP 126) := fun w h => List.mem_cons_of_mem _ h
theorem hws_127 : mWs (MdP 127) = Cond.code (mNam (MdP 127)) (mCod (MdP 127)) (mMax (MdP 127)) (mRet (MdP 127)) :: zBig := rfl
theorem iw_127 : ∀ w ∈ zBig, w ∈ mWs (MdP 127) := fun w h => List.mem_cons_of_mem _ h
theorem hws_128 : mWs (MdP 128) = Cond.code (mNam (MdP 128)) (mCod (MdP 128)) (mMax (MdP 128)) (mRet (MdP 128)) :: zBig := rfl
theorem iw_128 : ∀ w ∈ zBig, w ∈ mWs (MdP 128) := fun w h => List.mem_cons_of_mem _ h
theorem hws_129 : mWs (MdP 129) = Cond.code (mNam (MdP 129)) (mCod (MdP 129)) (mMax (MdP 129)) (mRet (MdP 129)) :: zBig := rfl
theorem iw_129 : ∀ w ∈ zBig, w ∈ mWs (MdP 129) := fun w h => List.mem_cons_of_mem _ h
theorem hws_130 : mWs (MdP 130) = Cond.code (mNam (MdP 130)) (mCod (MdP 130)) (mMax (MdP 130)) (mRet (MdP 130)) :: zBig := rfl
theorem iw_130 : ∀ w ∈ zBig, w ∈ mWs (MdP 130) := fun w h => List.mem_cons_of_mem _ h
theorem hws_131 : mWs (MdP 131) = Cond.code (mNam (MdP 131)) (mCod (MdP 131)) (mMax (MdP 131)) (mRet (MdP 131)) :: zBig := rfl
theorem iw_131 : ∀ w ∈ zBig, w ∈ mWs (MdP 131) := fun w h => List.mem_cons_of_mem _ h
theorem hws_132 : mWs (MdP 132) = Cond.code (mNam (MdP 132)) (mCod (MdP 132)) (mMax (MdP 132)) (mRet (MdP 132)) :: zBig := rfl
theorem iw_132 : ∀ w ∈ zBig, w ∈ mWs (MdP 132) := fun w h => List.mem_cons_of_mem _ h
theorem hws_133 : mWs (MdP 133) = Cond.code (mNam (MdP 133)) (mCod (MdP 133)) (mMax (MdP 133)) (mRet (MdP 133)) :: zBig := rfl
theorem iw_133 : ∀ w ∈ zBig, w ∈ mWs (MdP 133) := fun w h => List.mem_cons_of_mem _ h
theorem hws_134 : mWs (MdP 134) = Cond.code (mNam (MdP 134)) (mCod (MdP 134)) (mMax (MdP 134)) (mRet (MdP 134)) :: zBig := rfl
theorem iw_134 : ∀ w ∈ zBig, w ∈ mWs (MdP 134) := fun w h => List.mem_cons_of_mem _ h
theorem hws_135 : mWs (MdP 135) = Cond.code (mNam (MdP 135)) (mCod (MdP 135)) (mMax (MdP 135)) (mRet (MdP 135)) :: zBig := rfl
theorem iw_135 : ∀ w ∈ zBig, w ∈ mWs (MdP 135) := fun w h => List.mem_cons_of_mem _ h
theorem hws_136 : mWs (MdP 136) = Cond.code (mNam (MdP 136)) (mCod (MdP 136)) (mMax (MdP 136)) (mRet (MdP 136)) :: zBig := rfl
theorem iw_136 : ∀ w ∈ zBig, w ∈ mWs (MdP 136) := fun w h => List.mem_cons_of_mem _ h
theorem hws_137 : mWs (MdP 137) = Cond.code (mNam (MdP 137)) (mCod (MdP 137)) (mMax (MdP 137)) (mRet (MdP 137)) :: zBig := rfl
theorem iw_137 : ∀ w ∈ zBig, w ∈ mWs (MdP 137) := fun w h => List.mem_cons_of_mem _ h
theorem hws_138 : mWs (MdP 138) = Cond.code (mNam (MdP 138)) (mCod (MdP 138)) (mMax (MdP 138)) (mRet (MdP 138)) :: zBig := rfl
theorem iw_138 : ∀ w ∈ zBig, w ∈ mWs (MdP 138) := fun w h => List.mem_cons_of_mem _ h
theorem hws_139 : mWs (MdP 139) = Cond.code (mNam (MdP 139)) (mCod (MdP 139)) (mMax (MdP 139)) (mRet (MdP 139)) :: zBig := rfl
theorem iw_139 : ∀ w ∈ zBig, w ∈ mWs (MdP 139) := fun w h => List.mem_cons_of_mem _ h
theorem hws_140 : mWs (MdP 140) = Cond.code (mNam (MdP 140)) (mCod (MdP 140)) (mMax (MdP 140)) (mRet (MdP 140)) :: zBig := rfl
theorem iw_140 : ∀ w ∈ zBig, w ∈ mWs (MdP 140) := fun w h => List.mem_cons_of_mem _ h
theorem hws_141 : mWs (MdP 141) = Cond.code (mNam (MdP 141)) (mCod (MdP 141)) (mMax (MdP 141)) (mRet (MdP 141)) :: zBig := rfl
theorem iw_141 : ∀ w ∈ zBig, w ∈ mWs (MdP 141) := fun w h => List.mem_cons_of_mem _ h
theorem hws_142 : mWs (MdP 142) = Cond.code (mNam (MdP 142)) (mCod (MdP 142)) (mMax (MdP 142)) (mRet (MdP 142)) :: zBig := rfl
theorem iw_142 : ∀ w ∈ zBig, w ∈ mWs (MdP 142) := fun w h => List.mem_cons_of_mem _ h
theorem hws_143 : mWs (MdP 143) = Cond.code (mNam (MdP 143)) (mCod (MdP 143)) (mMax (MdP 143)) (mRet (MdP 143)) :: zBig := rfl
theorem iw_143 : ∀ w ∈ zBig, w ∈ mWs (MdP 143) := fun w h => List.mem_cons_of_mem _ h
theorem hws_144 : mWs (MdP 144) = Cond.code (mNam (MdP 144)) (mCod (MdP 144)) (mMax (MdP 144)) (mRet (MdP 144)) :: zBig := rfl
theorem iw_144 : ∀ w ∈ zBig, w ∈ mWs (MdP 144) := fun w h => List.mem_cons_of_mem _ h
theorem hws_145 : mWs (MdP 145) = Cond.code (mNam (MdP 145)) (mCod (MdP 145)) (mMax (MdP 145)) (mRet (MdP 145)) :: zBig := rfl
theorem iw_145 : ∀ w ∈ zBig, w ∈ mWs (MdP 145) := fun w h => List.mem_cons_of_mem _ h
theorem hws_146 : mWs (MdP 146) = Cond.code (mNam (MdP 146)) (mCod (MdP 146)) (mMax (MdP 146)) (mRet (MdP 146)) :: zBig := rfl
theorem iw_146 : ∀ w ∈ zBig, w ∈ mWs (MdP 146) := fun w h => List.mem_cons_of_mem _ h
theorem hws_147 : mWs (MdP 147) = Cond.codeWith (mNam (MdP 147)) (mCod (MdP 147)) (mMax (MdP 147)) (mRet (MdP 147)) (mHH (MdP 147)) :: zBig := rfl
theorem iw_147 : ∀ w ∈ zBig, w ∈ mWs (MdP 147) := fun w h => List.mem_cons_of_mem _ h
theorem hws_148 : mWs (MdP 148) = Cond.codeWith (mNam (MdP 148)) (mCod (MdP 148)) (mMax (MdP 148)) (mRet (MdP 148)) (mHH (MdP 148)) :: zBig := rfl
theorem iw_148 : ∀ w ∈ zBig, w ∈ mWs (MdP 148) := fun w h => List.mem_cons_of_mem _ h
theorem hws_149 : mWs (MdP 149) = Cond.codeWith (mNam (MdP 149)) (mCod (MdP 149)) (mMax (MdP 149)) (mRet (MdP 149)) (mHH (MdP 149)) :: zBig := rfl
theorem iw_149 : ∀ w ∈ zBig, w ∈ mWs (MdP 149) := fun w h => List.mem_cons_of_mem _ h
theorem hws_150 : mWs (MdP 150) = Cond.codeWith (mNam (MdP 150)) (mCod (MdP 150)) (mMax (MdP 150)) (mRet (MdP 150)) (mHH (MdP 150)) :: zBig := rfl
theorem iw_150 : ∀ w ∈ zBig, w ∈ mWs (MdP 150) := fun w h => List.mem_cons_of_mem _ h
theorem hws_151 : mWs (MdP 151) = Cond.codeWith (mNam (MdP 151)) (mCod (MdP 151)) (mMax (MdP 151)) (mRet (MdP 151)) (mHH (MdP 151)) :: zBig := rfl
theorem iw_151 : ∀ w ∈ zBig, w ∈ mWs (MdP 151) := fun w h => List.mem_cons_of_mem _ h
theorem hws_152 : mWs (MdP 152) = Cond.codeWith (mNam (MdP 152)) (mCod (MdP 152)) (mMax (MdP 152)) (mRet (MdP 152)) (mHH (MdP 152)) :: zBig := rfl
theorem iw_152 : ∀ w ∈ zBig, w ∈ mWs (MdP 152) := fun w h => List.mem_cons_of_mem _ h
theorem hws_153 : mWs (MdP 153) = Cond.codeWith (mNam (MdP 153)) (mCod (MdP 153)) (mMax (MdP 153)) (mRet (MdP 153)) (mHH (MdP 153)) :: zBig := rfl
theorem iw_153 : ∀ w ∈ zBig, w ∈ mWs (MdP 153) := fun w h => List.mem_cons_of_mem _ h
theorem hws_154 : mWs (MdP 154) = Cond.codeWith (mNam (MdP 154)) (mCod (MdP 154)) (mMax (MdP 154)) (mRet (MdP 154)) (mHH (MdP 154)) :: zBig := rfl
theorem iw_154 : ∀ w ∈ zBig, w ∈ mWs (MdP 154) := fun w h => List.mem_cons_of_mem _ h
theorem hws_155 : mWs (MdP 155) = Cond.codeWith (mNam (MdP 155)) (mCod (MdP 155)) (mMax (MdP 155)) (mRet (MdP 155)) (mHH (MdP 155)) :: zBig := rfl
theorem iw_155 : ∀ w ∈ zBig, w ∈ mWs (MdP 155) := fun w h => List.mem_cons_of_mem _ h
theorem hws_156 : mWs (MdP 156) = Cond.codeWith (mNam (MdP 156)) (mCod (MdP 156)) (mMax (MdP 156)) (mRet (MdP 156)) (mHH (MdP 156)) :: zBig := rfl
theorem iw_156 : ∀ w ∈ zBig, w ∈ mWs (MdP 156) := fun w h => List.mem_cons_of_mem _ h
theorem hws_157 : mWs (MdP 157) = Cond.codeWith (mNam (MdP 157)) (mCod (MdP 157)) (mMax (MdP 157)) (mRet (MdP 157)) (mHH (MdP 157)) :: zBig := rfl
theorem iw_157 : ∀ w ∈ zBig, w ∈ mWs (MdP 157) := fun w h => List.mem_cons_of_mem _ h
theorem hws_158 : mWs (MdP 158) = Cond.codeWith (mNam (MdP 158)) (mCod (MdP 158)) (mMax (MdP 158)) (mRet (MdP 158)) (mHH (MdP 158)) :: zBig := rfl
theorem iw_158 : ∀ w ∈ zBig, w ∈ mWs (MdP 158) := fun w h => List.mem_cons_of_mem _ h
theorem hws_159 : mWs (MdP 159) = Cond.codeWith (mNam (MdP 159)) (mCod (MdP 159)) (mMax (MdP 159)) (mRet (MdP 159)) (mHH (MdP 159)) :: zBig := rfl
theorem iw_159 : ∀ w ∈ zBig, w ∈ mWs (MdP 159) := fun w h => List.mem_cons_of_mem _ h
theorem hws_160 : mWs (MdP 160) = Cond.codeWith (mNam (MdP 160)) (mCod (MdP 160)) (mMax (MdP 160)) (mRet (MdP 160)) (mHH (MdP 160)) :: zBig := rfl
theorem iw_160 : ∀ w ∈ zBig, w ∈ mWs (MdP 160) := fun w h => List.mem_cons_of_mem _ h
theorem hws_161 : mWs (MdP 161) = Cond.codeWith (mNam (MdP 161)) (mCod (MdP 161)) (mMax (MdP 161)) (mRet (MdP 161)) (mHH (MdP 161)) :: zBig := rfl
theorem iw_161 : ∀ w ∈ zBig, w ∈ mWs (MdP 161) := fun w h => List.mem_cons_of_mem _ h
theorem hws_162 : mWs (MdP 162) = Cond.codeWith (mNam (MdP 162)) (mCod (MdP 162)) (mMax (MdP 162)) (mRet (MdP 162)) (mHH (MdP 162)) :: zBig := rfl
theorem iw_162 : ∀ w ∈ zBig, w ∈ mWs (MdP 162) := fun w h => List.mem_cons_of_mem _ h
theorem hws_163 : mWs (MdP 163) = Cond.codeWith (mNam (MdP 163)) (mCod (MdP 163)) (mMax (MdP 163)) (mRet (MdP 163)) (mHH (MdP 163)) :: zBig := rfl
theorem iw_163 : ∀ w ∈ zBig, w ∈ mWs (MdP 163) := fun w h => List.mem_cons_of_mem _ h
theorem hws_164 : mWs (MdP 164) = Cond.codeWith (mNam (MdP 164)) (mCod (MdP 164)) (mMax (MdP 164)) (mRet (MdP 164)) (mHH (MdP 164)) :: zBig := rfl
theorem iw_164 : ∀ w ∈ zBig, w ∈ mWs (MdP 164) := fun w h => List.mem_cons_of_mem _ h
theorem hws_165 : mWs (MdP 165) = Cond.codeWith (mNam (MdP 165)) (mCod (MdP 165)) (mMax (MdP 165)) (mRet (MdP 165)) (mHH (MdP 165)) :: zBig := rfl
theorem iw_165 : ∀ w ∈ zBig, w ∈ mWs (MdP 165) := fun w h => List.mem_cons_of_mem _ h
theorem hws_166 : mWs (MdP 166) = Cond.codeWith (mNam (MdP 166)) (mCod (MdP 166)) (mMax (MdP 166)) (mRet (MdP 166)) (mHH (MdP 166)) :: zBig := rfl
theorem iw_166 : ∀ w ∈ zBig, w ∈ mWs (MdP 166) := fun w h => List.mem_cons_of_mem _ h
theorem hws_167 : mWs (MdP 167) = Cond.codeWith (mNam (MdP 167)) (mCod (MdP 167)) (mMax (MdP 167)) (mRet (MdP 167)) (mHH (MdP 167)) :: zBig := rfl
theorem iw_167 : ∀ w ∈ zBig, w ∈ mWs (MdP 167) := fun w h => List.mem_cons_of_mem _ h
theorem hws_168 : mWs (MdP 168) = Cond.codeWith (mNam (MdP 168)) (mCod (MdP 168)) (mMax (MdP 168)) (mRet (MdP 168)) (mHH (MdP 168)) :: zBig := rfl
theorem iw_168 : ∀ w ∈ zBig, w ∈ mWs (MdP 168) := fun w h => List.mem_cons_of_mem _ h
theorem hws_169 : mWs (MdP 169) = Cond.codeWith (mNam (MdP 169)) (mCod (MdP 169)) (mMax (MdP 169)) (mRet (MdP 169)) (mHH (MdP 169)) :: zBig := rfl
theorem iw_169 : ∀ w ∈ zBig, w ∈ mWs (MdP 169) := fun w h => List.mem_cons_of_mem _ h
theorem hws_170 : mWs (MdP 170) = Cond.codeWith (mNam (MdP 170)) (mCod (MdP 170)) (mMax (MdP 170)) (mRet (MdP 170)) (mHH (MdP 170)) :: zBig := rfl
theorem iw_170 : ∀ w ∈ zBig, w ∈ mWs (MdP 170) := fun w h => List.mem_cons_of_mem _ h
theorem hws_171 : mWs (MdP 171) = Cond.code (mNam (MdP 171)) (mCod (MdP 171)) (mMax (MdP 171)) (mRet (MdP 171)) :: zBig := rfl
theorem iw_171 : ∀ w ∈ zBig, w ∈ mWs (MdP 171) := fun w h => List.mem_cons_of_mem _ h
end
section
section
variable {D : va_G} {A : Nat → Prop} {l : Launch}
-- 0: Marginalia$Anchor.<init>(II)V
def dl_0_0 : List (Nat × Instr × Nat) := [(0, .aload_n 0, 1), (1, .invokespecial 1, 3), (4, .aload_n 0, 1), (5, .iload_n 1, 1), (6, .putfield 7, 3), (9, .aload_n 0, 1), (10, .iload_n 2, 1), (11, .putfield 13, 3), (14, .return_, 1)]
theorem dk_0_0 : ∀ q ∈ dl_0_0, decode (mCod (MdP 0)) q.1 = .ok q.2 := by
  rw [show mCod (MdP 0) = cX0_init from rfl]
  decide +kernel
def tb_0_0 : List (Nat × Op1) := [(0, oLdR 0 1), (1, oObj), (4, oLdR 0 1), (5, oLdI 1 1), (6, oPutI 1 0), (9, oLdR 0 1), (10, oLdI 2 1), (11, oPutI 1 1), (14, oRetV)]
theorem sm_0_0 : ∀ q ∈ tb_0_0, SM GwP MdP D A l 0 q.1 q.2 :=
  List.forall_mem_cons.mpr ⟨sd_oLdR_n 0 0 0 0 rfl (dk_0_0 (0, .aload_n 0, 1) (List.mem_of_getElem? (i := 0) rfl)),
  List.forall_mem_cons.mpr ⟨sd_obj 0 1 1 (iw_0 _ zw0) (iw_0 _ zw1) (iw_0 _ zw2) (by decide) (by decide) (dk_0_0 (1, .invokespecial 1, 3) (List.mem_of_getElem? (i := 1) rfl)),
  List.forall_mem_cons.mpr ⟨sd_oLdR_n 0 4 0 0 rfl (dk_0_0 (4, .aload_n 0, 1) (List.mem_of_getElem? (i := 2) rfl)),
  List.forall_mem_cons.mpr ⟨sd_oLdI_n 0 5 1 1 rfl (dk_0_0 (5, .iload_n 1, 1) (List.mem_of_getElem? (i := 3) rfl)),
  List.forall_mem_cons.mpr ⟨sd_oPutI 0 6 1 0 7 RX0 TX0 2 rfl ⟨by decide, by decide⟩ rfl (by decide) rfl (fun w h => iw_0 w (uz_0 w h)) rfl tyX0 tyX0_ok nmX0 rfl rfl (iw_0 _ zw3) (dk_0_0 (6, .putfield 7, 3) (List.mem_of_getElem? (i := 4) rfl)),
  List.forall_mem_cons.mpr ⟨sd_oLdR_n 0 9 0 0 rfl (dk_0_0 (9, .aload_n 0, 1) (List.mem_of_getElem? (i := 5) rfl)),
  List.forall_mem_cons.mpr ⟨sd_oLdI_n 0 10 2 2 rfl (dk_0_0 (10, .iload_n 2, 1) (List.mem_of_getElem? (i := 6) rfl)),
  List.forall_mem_cons.mpr ⟨sd_oPutI 0 11 1 1 13 RX0 TX0 2 rfl ⟨by decide, by decide⟩ rfl (by decide) rfl (fun w h => iw_0 w (uz_0 w h)) rfl tyX0 tyX0_ok nmX0 rfl rfl (iw_0 _ zw4) (dk_0_0 (11, .putfield 13, 3) (List.mem_of_getElem? (i := 7) rfl)),
  List.forall_mem_cons.mpr ⟨sd_vret 0 14 rfl (dk_0_0 (14, .return_, 1) (List.mem_of_getElem? (i := 8) rfl)),
  fun _ h => nomatch h⟩⟩⟩⟩⟩⟩⟩⟩⟩
def tb_0 : List (Nat × Op1) := tb_0_0
theorem sm_0 : ∀ q ∈ tb_0, SM GwP MdP D A l 0 q.1 q.2 := sm_0_0
-- 1: Marginalia$Anchor.lay(II)V
def dl_1_0 : List (Nat × Instr × Nat) := [(0, .aload_n 0, 1), (1, .iload_n 1, 1), (2, .putfield 7, 3), (5, .aload_n 0, 1), (6, .iload_n 2, 1), (7, .putfield 13, 3), (10, .return_, 1)]
theorem dk_1_0 : ∀ q ∈ dl_1_0, decode (mCod (MdP 1)) q.1 = .ok q.2 := by
  rw [show mCod (MdP 1) = cX0_lay from rfl]
  decide +kernel
def tb_1_0 : List (Nat × Op1) := [(0, oLdR 0 1), (1, oLdI 1 1), (2, oPutI 1 0), (5, oLdR 0 1), (6, oLdI 2 1), (7, oPutI 1 1), (10, oRetV)]
theorem sm_1_0 : ∀ q ∈ tb_1_0, SM GwP MdP D A l 1 q.1 q.2 :=
  List.forall_mem_cons.mpr ⟨sd_oLdR_n 1 0 0 0 rfl (dk_1_0 (0, .aload_n 0, 1) (List.mem_of_getElem? (i := 0) rfl)),
  List.forall_mem_cons.mpr ⟨sd_oLdI_n 1 1 1 1 rfl (dk_1_0 (1, .iload_n 1, 1) (List.mem_of_getElem? (i := 1) rfl)),
  List.forall_mem_cons.mpr ⟨sd_oPutI 1 2 1 0 7 RX0 TX0 2 rfl ⟨by decide, by decide⟩ rfl (by decide) rfl (fun w h => iw_1 w (uz_0 w h)) rfl tyX0 tyX0_ok nmX0 rfl rfl (iw_1 _ zw3) (dk_1_0 (2, .putfield 7, 3) (List.mem_of_getElem? (i := 2) rfl)),
  List.forall_mem_cons.mpr ⟨sd_oLdR_n 1 5 0 0 rfl (dk_1_0 (5, .aload_n 0, 1) (List.mem_of_getElem? (i := 3) rfl)),
  List.forall_mem_cons.mpr ⟨sd_oLdI_n 1 6 2 2 rfl (dk_1_0 (6, .iload_n 2, 1) (List.mem_of_getElem? (i := 4) rfl)),
  List.forall_mem_cons.mpr ⟨sd_oPutI 1 7 1 1 13 RX0 TX0 2 rfl ⟨by decide, by decide⟩ rfl (by decide) rfl (fun w h => iw_1 w (uz_0 w h)) rfl tyX0 tyX0_ok nmX0 rfl rfl (iw_1 _ zw4) (dk_1_0 (7, .putfield 13, 3) (List.mem_of_getElem? (i := 5) rfl)),
  List.forall_mem_cons.mpr ⟨sd_vret 1 10 rfl (dk_1_0 (10, .return_, 1) (List.mem_of_getElem? (i := 6) rfl)),
  fun _ h => nomatch h⟩⟩⟩⟩⟩⟩⟩
def tb_1 : List (Nat × Op1) := tb_1_0
theorem sm_1 : ∀ q ∈ tb_1, SM GwP MdP D A l 1 q.1 q.2 := sm_1_0
-- 2: Marginalia$Anchor.size()I
def dl_2_0 : List (Nat × Instr × Nat) := [(0, .aload_n 0, 1), (1, .getfield 13, 3), (4, .aload_n 0, 1), (5, .getfield 7, 3), (8, .isub, 1), (9, .ireturn, 1)]
theorem dk_2_0 : ∀ q ∈ dl_2_0, decode (mCod (MdP 2)) q.1 = .ok q.2 := by
  rw [show mCod (MdP 2) = cX0_size from rfl]
  decide +kernel
def tb_2_0 : List (Nat × Op1) := [(0, oLdR 0 1), (1, oGetI 1 1), (4, oLdR 0 1), (5, oGetI 1 0), (8, oSub), (9, oRetI)]
theorem sm_2_0 : ∀ q ∈ tb_2_0, SM GwP MdP D A l 2 q.1 q.2 :=
  List.forall_mem_cons.mpr ⟨sd_oLdR_n 2 0 0 0 rfl (dk_2_0 (0, .aload_n 0, 1) (List.mem_of_getElem? (i := 0) rfl)),
  List.forall_mem_cons.mpr ⟨sd_oGetI 2 1 1 1 13 RX0 TX0 2 rfl ⟨by decide, by decide⟩ rfl (by decide) rfl (fun w h => iw_2 w (uz_0 w h)) rfl (iw_2 _ zw4) (dk_2_0 (1, .getfield 13, 3) (List.mem_of_getElem? (i := 1) rfl)),
  List.forall_mem_cons.mpr ⟨sd_oLdR_n 2 4 0 0 rfl (dk_2_0 (4, .aload_n 0, 1) (List.mem_of_getElem? (i := 2) rfl)),
  List.forall_mem_cons.mpr ⟨sd_oGetI 2 5 1 0 7 RX0 TX0 2 rfl ⟨by decide, by decide⟩ rfl (by decide) rfl (fun w h => iw_2 w (uz_0 w h)) rfl (iw_2 _ zw3) (dk_2_0 (5, .getfield 7, 3) (List.mem_of_getElem? (i := 3) rfl)),
  List.forall_mem_cons.mpr ⟨sd_isub 2 8 (dk_2_0 (8, .isub, 1) (List.mem_of_getElem? (i := 4) rfl)),
  List.forall_mem_cons.mpr ⟨sd_iret 2 9 rfl (dk_2_0 (9, .ireturn, 1) (List.mem_of_getElem? (i := 5) rfl)),
  fun _ h => nomatch h⟩⟩⟩⟩⟩⟩
def tb_2 : List (Nat × Op1) := tb_2_0
theorem sm_2 : ∀ q ∈ tb_2, SM GwP MdP D A l 2 q.1 q.2 := sm_2_0
-- 3: Marginalia$Anchor.isLost()Z
def dl_3_0 : List (Nat × Instr × Nat) := [(0, .aload_n 0, 1), (1, .getfield 7, 3), (4, .aload_n 0, 1), (5, .getfield 13, 3), (8, .if_icmp .ne 7, 3), (11, .iconst 1, 1), (12, .goto 4, 3), (15, .iconst 0, 1), (16, .ireturn, 1)]
theorem dk_3_0 : ∀ q ∈ dl_3_0, decode (mCod (MdP 3)) q.1 = .ok q.2 := by
  rw [show mCod (MdP 3) = cX0_isLost from rfl]
  decide +kernel
def tb_3_0 : List (Nat × Op1) := [(0, oLdR 0 1), (1, oGetI 1 0), (4, oLdR 0 1), (5, oGetI 1 1), (8, oCne 15), (11, oCI 1 1), (12, oGoto 16), (15, oCI 0 1), (16, oRetZ)]
theorem sm_3_0 : ∀ q ∈ tb_3_0, SM GwP MdP D A l 3 q.1 q.2 :=
  List.forall_mem_cons.mpr ⟨sd_oLdR_n 3 0 0 0 rfl (dk_3_0 (0, .aload_n 0, 1) (List.mem_of_getElem? (i := 0) rfl)),
  List.forall_mem_cons.mpr ⟨sd_oGetI 3 1 1 0 7 RX0 TX0 2 rfl ⟨by decide, by decide⟩ rfl (by decide) rfl (fun w h => iw_3 w (uz_0 w h)) rfl (iw_3 _ zw3) (dk_3_0 (1, .getfield 7, 3) (List.mem_of_getElem? (i := 1) rfl)),
  List.forall_mem_cons.mpr ⟨sd_oLdR_n 3 4 0 0 rfl (dk_3_0 (4, .aload_n 0, 1) (List.mem_of_getElem? (i := 2) rfl)),
  List.forall_mem_cons.mpr ⟨sd_oGetI 3 5 1 1 13 RX0 TX0 2 rfl ⟨by decide, by decide⟩ rfl (by decide) rfl (fun w h => iw_3 w (uz_0 w h)) rfl (iw_3 _ zw4) (dk_3_0 (5, .getfield 13, 3) (List.mem_of_getElem? (i := 3) rfl)),
  List.forall_mem_cons.mpr ⟨sd_icmp_ne 3 8 7 15 (by decide) (dk_3_0 (8, .if_icmp .ne 7, 3) (List.mem_of_getElem? (i := 4) rfl)),
  List.forall_mem_cons.mpr ⟨sd_iconst 3 11 1 ⟨by decide, by decide⟩ (dk_3_0 (11, .iconst 1, 1) (List.mem_of_getElem? (i := 5) rfl)),
  List.forall_mem_cons.mpr ⟨sd_goto 3 12 4 16 (by decide) (dk_3_0 (12, .goto 4, 3) (List.mem_of_getElem? (i := 6) rfl)),
  List.forall_mem_cons.mpr ⟨sd_iconst 3 15 0 ⟨by decide, by decide⟩ (dk_3_0 (15, .iconst 0, 1) (List.mem_of_getElem? (i := 7) rfl)),
  List.forall_mem_cons.mpr ⟨sd_zret 3 16 rfl (dk_3_0 (16, .ireturn, 1) (List.mem_of_getElem? (i := 8) rfl)),
  fun _ h => nomatch h⟩⟩⟩⟩⟩⟩⟩⟩⟩
def tb_3 : List (Nat × Op1) := tb_3_0
theorem sm_3 : ∀ q ∈ tb_3, SM GwP MdP D A l 3 q.1 q.2 := sm_3_0
-- 4: Marginalia$Anchor.covers(I)Z
def dl_4_0 : List (Nat × Instr × Nat) := [(0, .iload_n 1, 1), (1, .aload_n 0, 1), (2, .getfield 7, 3), (5, .if_icmp .lt 15, 3), (8, .iload_n 1, 1), (9, .aload_n 0, 1), (10, .getfield 13, 3), (13, .if_icmp .ge 7, 3), (16, .iconst 1, 1), (17, .goto 4, 3), (20, .iconst 0, 1), (21, .ireturn, 1)]
theorem dk_4_0 : ∀ q ∈ dl_4_0, decode (mCod (MdP 4)) q.1 = .ok q.2 := by
  rw [show mCod (MdP 4) = cX0_covers from rfl]
  decide +kernel
def tb_4_0 : List (Nat × Op1) := [(0, oLdI 1 1), (1, oLdR 0 1), (2, oGetI 1 0), (5, oClt 20), (8, oLdI 1 1), (9, oLdR 0 1), (10, oGetI 1 1), (13, oCge 20), (16, oCI 1 1), (17, oGoto 21), (20, oCI 0 1), (21, oRetZ)]
theorem sm_4_0 : ∀ q ∈ tb_4_0, SM GwP MdP D A l 4 q.1 q.2 :=
  List.forall_mem_cons.mpr ⟨sd_oLdI_n 4 0 1 1 rfl (dk_4_0 (0, .iload_n 1, 1) (List.mem_of_getElem? (i := 0) rfl)),
  List.forall_mem_cons.mpr ⟨sd_oLdR_n 4 1 0 0 rfl (dk_4_0 (1, .aload_n 0, 1) (List.mem_of_getElem? (i := 1) rfl)),
  List.forall_mem_cons.mpr ⟨sd_oGetI 4 2 1 0 7 RX0 TX0 2 rfl ⟨by decide, by decide⟩ rfl (by decide) rfl (fun w h => iw_4 w (uz_0 w h)) rfl (iw_4 _ zw3) (dk_4_0 (2, .getfield 7, 3) (List.mem_of_getElem? (i := 2) rfl)),
  List.forall_mem_cons.mpr ⟨sd_icmp_lt 4 5 15 20 (by decide) (dk_4_0 (5, .if_icmp .lt 15, 3) (List.mem_of_getElem? (i := 3) rfl)),
  List.forall_mem_cons.mpr ⟨sd_oLdI_n 4 8 1 1 rfl (dk_4_0 (8, .iload_n 1, 1) (List.mem_of_getElem? (i := 4) rfl)),
  List.forall_mem_cons.mpr ⟨sd_oLdR_n 4 9 0 0 rfl (dk_4_0 (9, .aload_n 0, 1) (List.mem_of_getElem? (i := 5) rfl)),
  List.forall_mem_cons.mpr ⟨sd_oGetI 4 10 1 1 13 RX0 TX0 2 rfl ⟨by decide, by decide⟩ rfl (by decide) rfl (fun w h => iw_4 w (uz_0 w h)) rfl (iw_4 _ zw4) (dk_4_0 (10, .getfield 13, 3) (List.mem_of_getElem? (i := 6) rfl)),
  List.forall_mem_cons.mpr ⟨sd_icmp_ge 4 13 7 20 (by decide) (dk_4_0 (13, .if_icmp .ge 7, 3) (List.mem_of_getElem? (i := 7) rfl)),
  List.forall_mem_cons.mpr ⟨sd_iconst 4 16 1 ⟨by decide, by decide⟩ (dk_4_0 (16, .iconst 1, 1) (List.mem_of_getElem? (i := 8) rfl)),
  List.forall_mem_cons.mpr ⟨sd_goto 4 17 4 21 (by decide) (dk_4_0 (17, .goto 4, 3) (List.mem_of_getElem? (i := 9) rfl)),
  List.forall_mem_cons.mpr ⟨sd_iconst 4 20 0 ⟨by decide, by decide⟩ (dk_4_0 (20, .iconst 0, 1) (List.mem_of_getElem? (i := 10) rfl)),
  List.forall_mem_cons.mpr ⟨sd_zret 4 21 rfl (dk_4_0 (21, .ireturn, 1) (List.mem_of_getElem? (i := 11) rfl)),
  fun _ h => nomatch h⟩⟩⟩⟩⟩⟩⟩⟩⟩⟩⟩⟩
def tb_4 : List (Nat × Op1) := tb_4_0
theorem sm_4 : ∀ q ∈ tb_4, SM GwP MdP D A l 4 q.1 q.2 := sm_4_0
-- 5: Marginalia$Anchor.isAheadOf(LMarginalia$Anchor;)Z
def dl_5_0 : List (Nat × Instr × Nat) := [(0, .aload_n 0, 1), (1, .getfield 7, 3), (4, .aload_n 1, 1), (5, .getfield 7, 3), (8, .if_icmp .ne 22, 3), (11, .aload_n 0, 1), (12, .getfield 13, 3), (15, .aload_n 1, 1), (16, .getfield 13, 3), (19, .if_icmp .ge 7, 3), (22, .iconst 1, 1), (23, .goto 23, 3), (26, .iconst 0, 1), (27, .goto 19, 3), (30, .aload_n 0, 1), (31, .getfield 7, 3), (34, .aload_n 1, 1), (35, .getfield 7, 3), (38, .if_icmp .ge 7, 3), (41, .iconst 1, 1), (42, .goto 4, 3), (45, .iconst 0, 1), (46, .ireturn, 1)]
theorem dk_5_0 : ∀ q ∈ dl_5_0, decode (mCod (MdP 5)) q.1 = .ok q.2 := by
  rw [show mCod (MdP 5) = cX0_isAheadOf from rfl]
  decide +kernel
def tb_5_0 : List (Nat × Op1) := [(0, oLdR 0 1), (1, oGetI 1 0), (4, oLdR 1 1), (5, oGetI 1 0), (8, oCne 30), (11, oLdR 0 1), (12, oGetI 1 1), (15, oLdR 1 1), (16, oGetI 1 1), (19, oCge 26), (22, oCI 1 1), (23, oGoto 46), (26, oCI 0 1), (27, oGoto 46), (30, oLdR 0 1), (31, oGetI 1 0), (34, oLdR 1 1), (35, oGetI 1 0), (38, oCge 45), (41, oCI 1 1), (42, oGoto 46), (45, oCI 0 1), (46, oRetZ)]
theorem sm_5_0 : ∀ q ∈ tb_5_0, SM GwP MdP D A l 5 q.1 q.2 :=
  List.forall_mem_cons.mpr ⟨sd_oLdR_n 5 0 0 0 rfl (dk_5_0 (0, .aload_n 0, 1) (List.mem_of_getElem? (i := 0) rfl)),
  List.forall_mem_cons.mpr ⟨sd_oGetI 5 1 1 0 7 RX0 TX0 2 rfl ⟨by decide, by decide⟩ rfl (by decide) rfl (fun w h => iw_5 w (uz_0 w h)) rfl (iw_5 _ zw3) (dk_5_0 (1, .getfield 7, 3) (List.mem_of_getElem? (i := 1) rfl)),
  List.forall_mem_cons.mpr ⟨sd_oLdR_n 5 4 1 1 rfl (dk_5_0 (4, .aload_n 1, 1) (List.mem_of_getElem? (i := 2) rfl)),
  List.forall_mem_cons.mpr ⟨sd_oGetI 5 5 1 0 7 RX0 TX0 2 rfl ⟨by decide, by decide⟩ rfl (by decide) rfl (fun w h => iw_5 w (uz_0 w h)) rfl (iw_5 _ zw3) (dk_5_0 (5, .getfield 7, 3) (List.mem_of_getElem? (i := 3) rfl)),
  List.forall_mem_cons.mpr ⟨sd_icmp_ne 5 8 22 30 (by decide) (dk_5_0 (8, .if_icmp .ne 22, 3) (List.mem_of_getElem? (i := 4) rfl)),
  List.forall_mem_cons.mpr ⟨sd_oLdR_n 5 11 0 0 rfl (dk_5_0 (11, .aload_n 0, 1) (List.mem_of_getElem? (i := 5) rfl)),
  List.forall_mem_cons.mpr ⟨sd_oGetI 5 12 1 1 13 RX0 TX0 2 rfl ⟨by decide, by decide⟩ rfl (by decide) rfl (fun w h => iw_5 w (uz_0 w h)) rfl (iw_5 _ zw4) (dk_5_0 (12, .getfield 13, 3) (List.mem_of_getElem? (i := 6) rfl)),
  List.forall_mem_cons.mpr ⟨sd_oLdR_n 5 15 1 1 rfl (dk_5_0 (15, .aload_n 1, 1) (List.mem_of_getElem? (i := 7) rfl)),
  List.forall_mem_cons.mpr ⟨sd_oGetI 5 16 1 1 13 RX0 TX0 2 rfl ⟨by decide, by decide⟩ rfl (by decide) rfl (fun w h => iw_5 w (uz_0 w h)) rfl (iw_5 _ zw4) (dk_5_0 (16, .getfield 13, 3) (List.mem_of_getElem? (i := 8) rfl)),
  List.forall_mem_cons.mpr ⟨sd_icmp_ge 5 19 7 26 (by decide) (dk_5_0 (19, .if_icmp .ge 7, 3) (List.mem_of_getElem? (i := 9) rfl)),
  List.forall_mem_cons.mpr ⟨sd_iconst 5 22 1 ⟨by decide, by decide⟩ (dk_5_0 (22, .iconst 1, 1) (List.mem_of_getElem? (i := 10) rfl)),
  List.forall_mem_cons.mpr ⟨sd_goto 5 23 23 46 (by decide) (dk_5_0 (23, .goto 23, 3) (List.mem_of_getElem? (i := 11) rfl)),
  List.forall_mem_cons.mpr ⟨sd_iconst 5 26 0 ⟨by decide, by decide⟩ (dk_5_0 (26, .iconst 0, 1) (List.mem_of_getElem? (i := 12) rfl)),
  List.forall_mem_cons.mpr ⟨sd_goto 5 27 19 46 (by decide) (dk_5_0 (27, .goto 19, 3) (List.mem_of_getElem? (i := 13) rfl)),
  List.forall_mem_cons.mpr ⟨sd_oLdR_n 5 30 0 0 rfl (dk_5_0 (30, .aload_n 0, 1) (List.mem_of_getElem? (i := 14) rfl)),
  List.forall_mem_cons.mpr ⟨sd_oGetI 5 31 1 0 7 RX0 TX0 2 rfl ⟨by decide, by decide⟩ rfl (by decide) rfl (fun w h => iw_5 w (uz_0 w h)) rfl (iw_5 _ zw3) (dk_5_0 (31, .getfield 7, 3) (List.mem_of_getElem? (i := 15) rfl)),
  List.forall_mem_cons.mpr ⟨sd_oLdR_n 5 34 1 1 rfl (dk_5_0 (34, .aload_n 1, 1) (List.mem_of_getElem? (i := 16) rfl)),
  List.forall_mem_cons.mpr ⟨sd_oGetI 5 35 1 0 7 RX0 TX0 2 rfl ⟨by decide, by decide⟩ rfl (by decide) rfl (fun w h => iw_5 w (uz_0 w h)) rfl (iw_5 _ zw3) (dk_5_0 (35, .getfield 7, 3) (List.mem_of_getElem? (i := 17) rfl)),
  List.forall_mem_cons.mpr ⟨sd_icmp_ge 5 38 7 45 (by decide) (dk_5_0 (38, .if_icmp .ge 7, 3) (List.mem_of_getElem? (i := 18) rfl)),
  List.forall_mem_cons.mpr ⟨sd_iconst 5 41 1 ⟨by decide, by decide⟩ (dk_5_0 (41, .iconst 1, 1) (List.mem_of_getElem? (i := 19) rfl)),
  List.forall_mem_cons.mpr ⟨sd_goto 5 42 4 46 (by decide) (dk_5_0 (42, .goto 4, 3) (List.mem_of_getElem? (i := 20) rfl)),
  List.forall_mem_cons.mpr ⟨sd_iconst 5 45 0 ⟨by decide, by decide⟩ (dk_5_0 (45, .iconst 0, 1) (List.mem_of_getElem? (i := 21) rfl)),
  List.forall_mem_cons.mpr ⟨sd_zret 5 46 rfl (dk_5_0 (46, .ireturn, 1) (List.mem_of_getElem? (i := 22) rfl)),
  fun _ h => nomatch h⟩⟩⟩⟩⟩⟩⟩⟩⟩⟩⟩⟩⟩⟩⟩⟩⟩⟩⟩⟩⟩⟩⟩
def tb_5 : List (Nat × Op1) := tb_5_0
theorem sm_5 : ∀ q ∈ tb_5, SM GwP MdP D A l 5 q.1 q.2 := sm_5_0
-- 6: Marginalia$Anchor.wouldBeLost(II)Z
def dl_6_0 : List (Nat × Instr × Nat) := [(0, .aload_n 0, 1), (1, .invokevirtual 16, 3), (4, .ifCond .ne 23, 3), (7, .aload_n 0, 1), (8, .getfield 7, 3), (11, .iload_n 1, 1), (12, .if_icmp .lt 15, 3), (15, .aload_n 0, 1), (16, .getfield 13, 3), (19, .iload_n 2, 1), (20, .if_icmp .gt 7, 3), (23, .iconst 1, 1), (24, .goto 4, 3), (27, .iconst 0, 1), (28, .ireturn, 1)]
theorem dk_6_0 : ∀ q ∈ dl_6_0, decode (mCod (MdP 6)) q.1 = .ok q.2 := by
  rw [show mCod (MdP 6) = cX0_wouldBeLost from rfl]
  decide +kernel
def tb_6_0 : List (Nat × Op1) := [(0, oLdR 0 1), (1, oCallV 3 0 1 1 []), (4, oZne 27), (7, oLdR 0 1), (8, oGetI 1 0), (11, oLdI 1 1), (12, oClt 27), (15, oLdR 0 1), (16, oGetI 1 1), (19, oLdI 2 1), (20, oCgt 27), (23, oCI 1 1), (24, oGoto 28), (27, oCI 0 1), (28, oRetZ)]
theorem sm_6_0 : ∀ q ∈ tb_6_0, SM GwP MdP D A l 6 q.1 q.2 :=
  List.forall_mem_cons.mpr ⟨sd_oLdR_n 6 0 0 0 rfl (dk_6_0 (0, .aload_n 0, 1) (List.mem_of_getElem? (i := 0) rfl)),
  List.forall_mem_cons.mpr ⟨sd_callV 6 1 3 0 1 16 1 [] (gdV hws_6 hws_3 zw6 zw7 zw8 zw9 zw5) hws_3 rfl (by decide +kernel) rfl rfl ⟨by decide +kernel, by decide +kernel, by decide +kernel⟩ ⟨by decide, by decide⟩ (catch_nil rfl) RX0 rfl TX0 2 rfl ⟨by decide, by decide⟩ (dk_6_0 (1, .invokevirtual 16, 3) (List.mem_of_getElem? (i := 1) rfl)),
  List.forall_mem_cons.mpr ⟨sd_if_ne 6 4 23 27 (by decide) (dk_6_0 (4, .ifCond .ne 23, 3) (List.mem_of_getElem? (i := 2) rfl)),
  List.forall_mem_cons.mpr ⟨sd_oLdR_n 6 7 0 0 rfl (dk_6_0 (7, .aload_n 0, 1) (List.mem_of_getElem? (i := 3) rfl)),
  List.forall_mem_cons.mpr ⟨sd_oGetI 6 8 1 0 7 RX0 TX0 2 rfl ⟨by decide, by decide⟩ rfl (by decide) rfl (fun w h => iw_6 w (uz_0 w h)) rfl (iw_6 _ zw3) (dk_6_0 (8, .getfield 7, 3) (List.mem_of_getElem? (i := 4) rfl)),
  List.forall_mem_cons.mpr ⟨sd_oLdI_n 6 11 1 1 rfl (dk_6_0 (11, .iload_n 1, 1) (List.mem_of_getElem? (i := 5) rfl)),
  List.forall_mem_cons.mpr ⟨sd_icmp_lt 6 12 15 27 (by decide) (dk_6_0 (12, .if_icmp .lt 15, 3) (List.mem_of_getElem? (i := 6) rfl)),
  List.forall_mem_cons.mpr ⟨sd_oLdR_n 6 15 0 0 rfl (dk_6_0 (15, .aload_n 0, 1) (List.mem_of_getElem? (i := 7) rfl)),
  List.forall_mem_cons.mpr ⟨sd_oGetI 6 16 1 1 13 RX0 TX0 2 rfl ⟨by decide, by decide⟩ rfl (by decide) rfl (fun w h => iw_6 w (uz_0 w h)) rfl (iw_6 _ zw4) (dk_6_0 (16, .getfield 13, 3) (List.mem_of_getElem? (i := 8) rfl)),
  List.forall_mem_cons.mpr ⟨sd_oLdI_n 6 19 2 2 rfl (dk_6_0 (19, .iload_n 2, 1) (List.mem_of_getElem? (i := 9) rfl)),
  List.forall_mem_cons.mpr ⟨sd_icmp_gt 6 20 7 27 (by decide) (dk_6_0 (20, .if_icmp .gt 7, 3) (List.mem_of_getElem? (i := 10) rfl)),
  List.forall_mem_cons.mpr ⟨sd_iconst 6 23 1 ⟨by decide, by decide⟩ (dk_6_0 (23, .iconst 1, 1) (List.mem_of_getElem? (i := 11) rfl)),
  List.forall_mem_cons.mpr ⟨sd_goto 6 24 4 28 (by decide) (dk_6_0 (24, .goto 4, 3) (List.mem_of_getElem? (i := 12) rfl)),
  List.forall_mem_cons.mpr ⟨sd_iconst 6 27 0 ⟨by decide, by decide⟩ (dk_6_0 (27, .iconst 0, 1) (List.mem_of_getElem? (i := 13) rfl)),
  List.forall_mem_cons.mpr ⟨sd_zret 6 28 rfl (dk_6_0 (28, .ireturn, 1) (List.mem_of_getElem? (i := 14) rfl)),
  fun _ h => nomatch h⟩⟩⟩⟩⟩⟩⟩⟩⟩⟩⟩⟩⟩⟩⟩
def tb_6 : List (Nat × Op1) := tb_6_0
theorem sm_6 : ∀ q ∈ tb_6, SM GwP MdP D A l 6 q.1 q.2 := sm_6_0
-- 7: Marginalia$Anchor.moveAsPut(II)V
def dl_7_0 : List (Nat × Instr × Nat) := [(0, .iload_n 1, 1), (1, .aload_n 0, 1), (2, .getfield 7, 3), (5, .if_icmp .gt 26, 3), (8, .aload_n 0, 1), (9, .dup, 1), (10, .getfield 7, 3), (13, .iload_n 2, 1), (14, .iadd, 1), (15, .putfield 7, 3), (18, .aload_n 0, 1), (19, .dup, 1), (20, .getfield 13, 3), (23, .iload_n 2, 1), (24, .iadd, 1), (25, .putfield 13, 3), (28, .goto 21, 3), (31, .iload_n 1, 1), (32, .aload_n 0, 1), (33, .getfield 13, 3), (36, .if_icmp .ge 13, 3), (39, .aload_n 0, 1), (40, .dup, 1), (41, .getfield 13, 3), (44, .iload_n 2, 1), (45, .iadd, 1), (46, .putfield 13, 3), (49, .return_, 1)]
theorem dk_7_0 : ∀ q ∈ dl_7_0, decode (mCod (MdP 7)) q.1 = .ok q.2 := by
  rw [show mCod (MdP 7) = cX0_moveAsPut from rfl]
  decide +kernel
def tb_7_0 : List (Nat × Op1) := [(0, oLdI 1 1), (1, oLdR 0 1), (2, oGetI 1 0), (5, oCgt 31), (8, oLdR 0 1), (9, oDup), (10, oGetI 1 0), (13, oLdI 2 1), (14, oAdd), (15, oPutI 1 0), (18, oLdR 0 1), (19, oDup), (20, oGetI 1 1), (23, oLdI 2 1), (24, oAdd), (25, oPutI 1 1), (28, oGoto 49), (31, oLdI 1 1), (32, oLdR 0 1), (33, oGetI 1 1), (36, oCge 49), (39, oLdR 0 1), (40, oDup), (41, oGetI 1 1), (44, oLdI 2 1), (45, oAdd), (46, oPutI 1 1), (49, oRetV)]
theorem sm_7_0 : ∀ q ∈ tb_7_0, SM GwP MdP D A l 7 q.1 q.2 :=
  List.forall_mem_cons.mpr ⟨sd_oLdI_n 7 0 1 1 rfl (dk_7_0 (0, .iload_n 1, 1) (List.mem_of_getElem? (i := 0) rfl)),
  List.forall_mem_cons.mpr ⟨sd_oLdR_n 7 1 0 0 rfl (dk_7_0 (1, .aload_n 0, 1) (List.mem_of_getElem? (i := 1) rfl)),
  List.forall_mem_cons.mpr ⟨sd_oGetI 7 2 1 0 7 RX0 TX0 2 rfl ⟨by decide, by decide⟩ rfl (by decide) rfl (fun w h => iw_7 w (uz_0 w h)) rfl (iw_7 _ zw3) (dk_7_0 (2, .getfield 7, 3) (List.mem_of_getElem? (i := 2) rfl)),
  List.forall_mem_cons.mpr ⟨sd_icmp_gt 7 5 26 31 (by decide) (dk_7_0 (5, .if_icmp .gt 26, 3) (List.mem_of_getElem? (i := 3) rfl)),
  List.forall_mem_cons.mpr ⟨sd_oLdR_n 7 8 0 0 rfl (dk_7_0 (8, .aload_n 0, 1) (List.mem_of_getElem? (i := 4) rfl)),
  List.forall_mem_cons.mpr ⟨sd_dup 7 9 (dk_7_0 (9, .dup, 1) (List.mem_of_getElem? (i := 5) rfl)),
  List.forall_mem_cons.mpr ⟨sd_oGetI 7 10 1 0 7 RX0 TX0 2 rfl ⟨by decide, by decide⟩ rfl (by decide) rfl (fun w h => iw_7 w (uz_0 w h)) rfl (iw_7 _ zw3) (dk_7_0 (10, .getfield 7, 3) (List.mem_of_getElem? (i := 6) rfl)),
  List.forall_mem_cons.mpr ⟨sd_oLdI_n 7 13 2 2 rfl (dk_7_0 (13, .iload_n 2, 1) (List.mem_of_getElem? (i := 7) rfl)),
  List.forall_mem_cons.mpr ⟨sd_iadd 7 14 (dk_7_0 (14, .iadd, 1) (List.mem_of_getElem? (i := 8) rfl)),
  List.forall_mem_cons.mpr ⟨sd_oPutI 7 15 1 0 7 RX0 TX0 2 rfl ⟨by decide, by decide⟩ rfl (by decide) rfl (fun w h => iw_7 w (uz_0 w h)) rfl tyX0 tyX0_ok nmX0 rfl rfl (iw_7 _ zw3) (dk_7_0 (15, .putfield 7, 3) (List.mem_of_getElem? (i := 9) rfl)),
  List.forall_mem_cons.mpr ⟨sd_oLdR_n 7 18 0 0 rfl (dk_7_0 (18, .aload_n 0, 1) (List.mem_of_getElem? (i := 10) rfl)),
  List.forall_mem_cons.mpr ⟨sd_dup 7 19 (dk_7_0 (19, .dup, 1) (List.mem_of_getElem? (i := 11) rfl)),
  List.forall_mem_cons.mpr ⟨sd_oGetI 7 20 1 1 13 RX0 TX0 2 rfl ⟨by decide, by decide⟩ rfl (by decide) rfl (fun w h => iw_7 w (uz_0 w h)) rfl (iw_7 _ zw4) (dk_7_0 (20, .getfield 13, 3) (List.mem_of_getElem? (i := 12) rfl)),
  List.forall_mem_cons.mpr ⟨sd_oLdI_n 7 23 2 2 rfl (dk_7_0 (23, .iload_n 2, 1) (List.mem_of_getElem? (i := 13) rfl)),
  List.forall_mem_cons.mpr ⟨sd_iadd 7 24 (dk_7_0 (24, .iadd, 1) (List.mem_of_getElem? (i := 14) rfl)),
  List.forall_mem_cons.mpr ⟨sd_oPutI 7 25 1 1 13 RX0 TX0 2 rfl ⟨by decide, by decide⟩ rfl (by decide) rfl (fun w h => iw_7 w (uz_0 w h)) rfl tyX0 tyX0_ok nmX0 rfl rfl (iw_7 _ zw4) (dk_7_0 (25, .putfield 13, 3) (List.mem_of_getElem? (i := 15) rfl)),
  List.forall_mem_cons.mpr ⟨sd_goto 7 28 21 49 (by decide) (dk_7_0 (28, .goto 21, 3) (List.mem_of_getElem? (i := 16) rfl)),
  List.forall_mem_cons.mpr ⟨sd_oLdI_n 7 31 1 1 rfl (dk_7_0 (31, .iload_n 1, 1) (List.mem_of_getElem? (i := 17) rfl)),
  List.forall_mem_cons.mpr ⟨sd_oLdR_n 7 32 0 0 rfl (dk_7_0 (32, .aload_n 0, 1) (List.mem_of_getElem? (i := 18) rfl)),
  List.forall_mem_cons.mpr ⟨sd_oGetI 7 33 1 1 13 RX0 TX0 2 rfl ⟨by decide, by decide⟩ rfl (by decide) rfl (fun w h => iw_7 w (uz_0 w h)) rfl (iw_7 _ zw4) (dk_7_0 (33, .getfield 13, 3) (List.mem_of_getElem? (i := 19) rfl)),
  List.forall_mem_cons.mpr ⟨sd_icmp_ge 7 36 13 49 (by decide) (dk_7_0 (36, .if_icmp .ge 13, 3) (List.mem_of_getElem? (i := 20) rfl)),
  List.forall_mem_cons.mpr ⟨sd_oLdR_n 7 39 0 0 rfl (dk_7_0 (39, .aload_n 0, 1) (List.mem_of_getElem? (i := 21) rfl)),
  List.forall_mem_cons.mpr ⟨sd_dup 7 40 (dk_7_0 (40, .dup, 1) (List.mem_of_getElem? (i := 22) rfl)),
  List.forall_mem_cons.mpr ⟨sd_oGetI 7 41 1 1 13 RX0 TX0 2 rfl ⟨by decide, by decide⟩ rfl (by decide) rfl (fun w h => iw_7 w (uz_0 w h)) rfl (iw_7 _ zw4) (dk_7_0 (41, .getfield 13, 3) (List.mem_of_getElem? (i := 23) rfl)),
  List.forall_mem_cons.mpr ⟨sd_oLdI_n 7 44 2 2 rfl (dk_7_0 (44, .iload_n 2, 1) (List.mem_of_getElem? (i := 24) rfl)),
  List.forall_mem_cons.mpr ⟨sd_iadd 7 45 (dk_7_0 (45, .iadd, 1) (List.mem_of_getElem? (i := 25) rfl)),
  List.forall_mem_cons.mpr ⟨sd_oPutI 7 46 1 1 13 RX0 TX0 2 rfl ⟨by decide, by decide⟩ rfl (by decide) rfl (fun w h => iw_7 w (uz_0 w h)) rfl tyX0 tyX0_ok nmX0 rfl rfl (iw_7 _ zw4) (dk_7_0 (46, .putfield 13, 3) (List.mem_of_getElem? (i := 26) rfl)),
  List.forall_mem_cons.mpr ⟨sd_vret 7 49 rfl (dk_7_0 (49, .return_, 1) (List.mem_of_getElem? (i := 27) rfl)),
  fun _ h => nomatch h⟩⟩⟩⟩⟩⟩⟩⟩⟩⟩⟩⟩⟩⟩⟩⟩⟩⟩⟩⟩⟩⟩⟩⟩⟩⟩⟩⟩
def tb_7 : List (Nat × Op1) := tb_7_0
theorem sm_7 : ∀ q ∈ tb_7, SM GwP MdP D A l 7 q.1 q.2 := sm_7_0
-- 8: Marginalia$Anchor.moveAsCut(II)V
def dl_8_0 : List (Nat × Instr × Nat) := [(0, .aload_n 0, 1), (1, .dup, 1), (2, .getfield 7, 3), (5, .aload_n 0, 1), (6, .getfield 7, 3), (9, .iload_n 1, 1), (10, .iload_n 2, 1), (11, .invokestatic 20, 3), (14, .isub, 1), (15, .putfield 7, 3), (18, .aload_n 0, 1), (19, .dup, 1), (20, .getfield 13, 3), (23, .aload_n 0, 1), (24, .getfield 13, 3), (27, .iload_n 1, 1), (28, .iload_n 2, 1), (29, .invokestatic 20, 3), (32, .isub, 1), (33, .putfield 13, 3), (36, .return_, 1)]
theorem dk_8_0 : ∀ q ∈ dl_8_0, decode (mCod (MdP 8)) q.1 = .ok q.2 := by
  rw [show mCod (MdP 8) = cX0_moveAsCut from rfl]
  decide +kernel
def tb_8_0 : List (Nat × Op1) := [(0, oLdR 0 1), (1, oDup), (2, oGetI 1 0), (5, oLdR 0 1), (6, oGetI 1 0), (9, oLdI 1 1), (10, oLdI 2 1), (11, oCallS 9 3 3 []), (14, oSub), (15, oPutI 1 0), (18, oLdR 0 1), (19, oDup), (20, oGetI 1 1), (23, oLdR 0 1), (24, oGetI 1 1), (27, oLdI 1 1), (28, oLdI 2 1), (29, oCallS 9 3 3 []), (32, oSub), (33, oPutI 1 1), (36, oRetV)]
theorem sm_8_0 : ∀ q ∈ tb_8_0, SM GwP MdP D A l 8 q.1 q.2 :=
  List.forall_mem_cons.mpr ⟨sd_oLdR_n 8 0 0 0 rfl (dk_8_0 (0, .aload_n 0, 1) (List.mem_of_getElem? (i := 0) rfl)),
  List.forall_mem_cons.mpr ⟨sd_dup 8 1 (dk_8_0 (1, .dup, 1) (List.mem_of_getElem? (i := 1) rfl)),
  List.forall_mem_cons.mpr ⟨sd_oGetI 8 2 1 0 7 RX0 TX0 2 rfl ⟨by decide, by decide⟩ rfl (by decide) rfl (fun w h => iw_8 w (uz_0 w h)) rfl (iw_8 _ zw3) (dk_8_0 (2, .getfield 7, 3) (List.mem_of_getElem? (i := 2) rfl)),
  List.forall_mem_cons.mpr ⟨sd_oLdR_n 8 5 0 0 rfl (dk_8_0 (5, .aload_n 0, 1) (List.mem_of_getElem? (i := 3) rfl)),
  List.forall_mem_cons.mpr ⟨sd_oGetI 8 6 1 0 7 RX0 TX0 2 rfl ⟨by decide, by decide⟩ rfl (by decide) rfl (fun w h => iw_8 w (uz_0 w h)) rfl (iw_8 _ zw3) (dk_8_0 (6, .getfield 7, 3) (List.mem_of_getElem? (i := 4) rfl)),
  List.forall_mem_cons.mpr ⟨sd_oLdI_n 8 9 1 1 rfl (dk_8_0 (9, .iload_n 1, 1) (List.mem_of_getElem? (i := 5) rfl)),
  List.forall_mem_cons.mpr ⟨sd_oLdI_n 8 10 2 2 rfl (dk_8_0 (10, .iload_n 2, 1) (List.mem_of_getElem? (i := 6) rfl)),
  List.forall_mem_cons.mpr ⟨sd_callS 8 11 9 3 3 20 [] (gdS hws_8 hws_9 zw11 zw12 zw9 zw10) hws_9 rfl (by decide +kernel) rfl rfl ⟨by decide +kernel, by decide +kernel, by decide +kernel⟩ ⟨by decide, by decide⟩ (catch_nil rfl) (dk_8_0 (11, .invokestatic 20, 3) (List.mem_of_getElem? (i := 7) rfl)),
  List.forall_mem_cons.mpr ⟨sd_isub 8 14 (dk_8_0 (14, .isub, 1) (List.mem_of_getElem? (i := 8) rfl)),
  List.forall_mem_cons.mpr ⟨sd_oPutI 8 15 1 0 7 RX0 TX0 2 rfl ⟨by decide, by decide⟩ rfl (by decide) rfl (fun w h => iw_8 w (uz_0 w h)) rfl tyX0 tyX0_ok nmX0 rfl rfl (iw_8 _ zw3) (dk_8_0 (15, .putfield 7, 3) (List.mem_of_getElem? (i := 9) rfl)),
  List.forall_mem_cons.mpr ⟨sd_oLdR_n 8 18 0 0 rfl (dk_8_0 (18, .aload_n 0, 1) (List.mem_of_getElem? (i := 10) rfl)),
  List.forall_mem_cons.mpr ⟨sd_dup 8 19 (dk_8_0 (19, .dup, 1) (List.mem_of_getElem? (i := 11) rfl)),
  List.forall_mem_cons.mpr ⟨sd_oGetI 8 20 1 1 13 RX0 TX0 2 rfl ⟨by decide, by decide⟩ rfl (by decide) rfl (fun w h => iw_8 w (uz_0 w h)) rfl (iw_8 _ zw4) (dk_8_0 (20, .getfield 13, 3) (List.mem_of_getElem? (i := 12) rfl)),
  List.forall_mem_cons.mpr ⟨sd_oLdR_n 8 23 0 0 rfl (dk_8_0 (23, .aload_n 0, 1) (List.mem_of_getElem? (i := 13) rfl)),
  List.forall_mem_cons.mpr ⟨sd_oGetI 8 24 1 1 13 RX0 TX0 2 rfl ⟨by decide, by decide⟩ rfl (by decide) rfl (fun w h => iw_8 w (uz_0 w h)) rfl (iw_8 _ zw4) (dk_8_0 (24, .getfield 13, 3) (List.mem_of_getElem? (i := 14) rfl)),
  List.forall_mem_cons.mpr ⟨sd_oLdI_n 8 27 1 1 rfl (dk_8_0 (27, .iload_n 1, 1) (List.mem_of_getElem? (i := 15) rfl)),
  List.forall_mem_cons.mpr ⟨sd_oLdI_n 8 28 2 2 rfl (dk_8_0 (28, .iload_n 2, 1) (List.mem_of_getElem? (i := 16) rfl)),
  List.forall_mem_cons.mpr ⟨sd_callS 8 29 9 3 3 20 [] (gdS hws_8 hws_9 zw11 zw12 zw9 zw10) hws_9 rfl (by decide +kernel) rfl rfl ⟨by decide +kernel, by decide +kernel, by decide +kernel⟩ ⟨by decide, by decide⟩ (catch_nil rfl) (dk_8_0 (29, .invokestatic 20, 3) (List.mem_of_getElem? (i := 17) rfl)),
  List.forall_mem_cons.mpr ⟨sd_isub 8 32 (dk_8_0 (32, .isub, 1) (List.mem_of_getElem? (i := 18) rfl)),
  List.forall_mem_cons.mpr ⟨sd_oPutI 8 33 1 1 13 RX0 TX0 2 rfl ⟨by decide, by decide⟩ rfl (by decide) rfl (fun w h => iw_8 w (uz_0 w h)) rfl tyX0 tyX0_ok nmX0 rfl rfl (iw_8 _ zw4) (dk_8_0 (33, .putfield 13, 3) (List.mem_of_getElem? (i := 19) rfl)),
  List.forall_mem_cons.mpr ⟨sd_vret 8 36 rfl (dk_8_0 (36, .return_, 1) (List.mem_of_getElem? (i := 20) rfl)),
  fun _ h => nomatch h⟩⟩⟩⟩⟩⟩⟩⟩⟩⟩⟩⟩⟩⟩⟩⟩⟩⟩⟩⟩⟩
def tb_8 : List (Nat × Op1) := tb_8_0
theorem sm_8 : ∀ q ∈ tb_8, SM GwP MdP D A l 8 q.1 q.2 := sm_8_0
-- 9: Marginalia$Anchor.cutAheadOf(III)I
def dl_9_0 : List (Nat × Instr × Nat) := [(0, .iconst 0, 1), (1, .iload_n 0, 1), (2, .iload_n 2, 1), (3, .invokestatic 24, 3), (6, .iload_n 1, 1), (7, .isub, 1), (8, .invokestatic 30, 3), (11, .ireturn, 1)]
theorem dk_9_0 : ∀ q ∈ dl_9_0, decode (mCod (MdP 9)) q.1 = .ok q.2 := by
  rw [show mCod (MdP 9) = cX0_cutAheadOf from rfl]
  decide +kernel
def tb_9_0 : List (Nat × Op1) := [(0, oCI 0 1), (1, oLdI 0 1), (2, oLdI 2 1), (3, oMin), (6, oLdI 1 1), (7, oSub), (8, oMax), (11, oRetI)]
theorem sm_9_0 : ∀ q ∈ tb_9_0, SM GwP MdP D A l 9 q.1 q.2 :=
  List.forall_mem_cons.mpr ⟨sd_iconst 9 0 0 ⟨by decide, by decide⟩ (dk_9_0 (0, .iconst 0, 1) (List.mem_of_getElem? (i := 0) rfl)),
  List.forall_mem_cons.mpr ⟨sd_oLdI_n 9 1 0 0 rfl (dk_9_0 (1, .iload_n 0, 1) (List.mem_of_getElem? (i := 1) rfl)),
  List.forall_mem_cons.mpr ⟨sd_oLdI_n 9 2 2 2 rfl (dk_9_0 (2, .iload_n 2, 1) (List.mem_of_getElem? (i := 2) rfl)),
  List.forall_mem_cons.mpr ⟨sd_min 9 3 24 (iw_9 _ zw13) (iw_9 _ zw14) (iw_9 _ zw15) (iw_9 _ zw16) (by decide) (by decide) (dk_9_0 (3, .invokestatic 24, 3) (List.mem_of_getElem? (i := 3) rfl)),
  List.forall_mem_cons.mpr ⟨sd_oLdI_n 9 6 1 1 rfl (dk_9_0 (6, .iload_n 1, 1) (List.mem_of_getElem? (i := 4) rfl)),
  List.forall_mem_cons.mpr ⟨sd_isub 9 7 (dk_9_0 (7, .isub, 1) (List.mem_of_getElem? (i := 5) rfl)),
  List.forall_mem_cons.mpr ⟨sd_max 9 8 30 (iw_9 _ zw17) (iw_9 _ zw18) (iw_9 _ zw15) (iw_9 _ zw19) (by decide) (by decide) (dk_9_0 (8, .invokestatic 30, 3) (List.mem_of_getElem? (i := 6) rfl)),
  List.forall_mem_cons.mpr ⟨sd_iret 9 11 rfl (dk_9_0 (11, .ireturn, 1) (List.mem_of_getElem? (i := 7) rfl)),
  fun _ h => nomatch h⟩⟩⟩⟩⟩⟩⟩⟩
def tb_9 : List (Nat × Op1) := tb_9_0
theorem sm_9 : ∀ q ∈ tb_9, SM GwP MdP D A l 9 q.1 q.2 := sm_9_0
-- 10: Marginalia$Export.<init>()V
def dl_10_0 : List (Nat × Instr × Nat) := [(0, .aload_n 0, 1), (1, .invokespecial 3, 3), (4, .aload_n 0, 1), (5, .iconst 4, 1), (6, .bipush 60, 2), (8, .multianewarray 11 2, 4), (12, .putfield 13, 3), (15, .return_, 1)]
theorem dk_10_0 : ∀ q ∈ dl_10_0, decode (mCod (MdP 10)) q.1 = .ok q.2 := by
  rw [show mCod (MdP 10) = cX1_init from rfl]
  decide +kernel
def tb_10_0 : List (Nat × Op1) := [(0, oLdR 0 1), (1, oObj), (4, oLdR 0 1), (5, oCI 4 1), (6, oCI 60 2), (8, oNew2), (12, oPutR 2 0), (15, oRetV)]
theorem sm_10_0 : ∀ q ∈ tb_10_0, SM GwP MdP D A l 10 q.1 q.2 :=
  List.forall_mem_cons.mpr ⟨sd_oLdR_n 10 0 0 0 rfl (dk_10_0 (0, .aload_n 0, 1) (List.mem_of_getElem? (i := 0) rfl)),
  List.forall_mem_cons.mpr ⟨sd_obj 10 1 3 (iw_10 _ zw20) (iw_10 _ zw1) (iw_10 _ zw2) (by decide) (by decide) (dk_10_0 (1, .invokespecial 3, 3) (List.mem_of_getElem? (i := 1) rfl)),
  List.forall_mem_cons.mpr ⟨sd_oLdR_n 10 4 0 0 rfl (dk_10_0 (4, .aload_n 0, 1) (List.mem_of_getElem? (i := 2) rfl)),
  List.forall_mem_cons.mpr ⟨sd_iconst 10 5 4 ⟨by decide, by decide⟩ (dk_10_0 (5, .iconst 4, 1) (List.mem_of_getElem? (i := 3) rfl)),
  List.forall_mem_cons.mpr ⟨sd_bipush 10 6 60 ⟨by decide, by decide⟩ (by decide) (dk_10_0 (6, .bipush 60, 2) (List.mem_of_getElem? (i := 4) rfl)),
  List.forall_mem_cons.mpr ⟨sd_new2 10 8 11 (iw_10 _ zw21) (iw_10 _ zw22) (dk_10_0 (8, .multianewarray 11 2, 4) (List.mem_of_getElem? (i := 5) rfl)),
  List.forall_mem_cons.mpr ⟨sd_oPutRF 10 12 2 0 13 RX1 TX1 2 rfl ⟨by decide, by decide⟩ rfl (by decide) rfl (fun w h => iw_10 w (uz_1 w h)) rfl tyX1 tyX1_ok nmX1 (Or.inr ⟨_, rfl⟩) rfl rfl rfl (iw_10 _ zw23) (dk_10_0 (12, .putfield 13, 3) (List.mem_of_getElem? (i := 6) rfl)),
  List.forall_mem_cons.mpr ⟨sd_vret 10 15 rfl (dk_10_0 (15, .return_, 1) (List.mem_of_getElem? (i := 7) rfl)),
  fun _ h => nomatch h⟩⟩⟩⟩⟩⟩⟩⟩
def tb_10 : List (Nat × Op1) := tb_10_0
theorem sm_10 : ∀ q ∈ tb_10, SM GwP MdP D A l 10 q.1 q.2 := sm_10_0
-- 11: Marginalia$Export.addOrder(LMarginalia$Note;)V
def dl_11_0 : List (Nat × Instr × Nat) := [(0, .aload_n 1, 1), (1, .astore_n 2, 1), (2, .aload_n 2, 1), (3, .ifnull 94, 3), (6, .aload_n 2, 1), (7, .getfield 16, 3), (10, .ifCond .ne 79, 3), (13, .aload_n 0, 1), (14, .getfield 13, 3), (17, .iconst 0, 1), (18, .aaload, 1), (19, .aload_n 0, 1), (20, .getfield 22, 3), (23, .aload_n 2, 1), (24, .getfield 26, 3), (27, .iastore, 1), (28, .aload_n 0, 1), (29, .getfield 13, 3), (32, .iconst 1, 1), (33, .aaload, 1), (34, .aload_n 0, 1), (35, .getfield 22, 3), (38, .aload_n 2, 1), (39, .getfield 29, 3), (42, .iastore, 1), (43, .aload_n 0, 1), (44, .getfield 13, 3), (47, .iconst 2, 1), (48, .aaload, 1), (49, .aload_n 0, 1), (50, .getfield 22, 3), (53, .aload_n 2, 1), (54, .getfield 32, 3), (57, .getfield 36, 3), (60, .getfield 42, 3), (63, .iastore, 1), (64, .aload_n 0, 1), (65, .getfield 13, 3), (68, .iconst 3, 1), (69, .aaload, 1)]
theorem dk_11_0 : ∀ q ∈ dl_11_0, decode (mCod (MdP 11)) q.1 = .ok q.2 := by
  rw [show mCod (MdP 11) = cX1_addOrder from rfl]
  decide +kernel
def dl_11_1 : List (Nat × Instr × Nat) := [(70, .aload_n 0, 1), (71, .getfield 22, 3), (74, .aload_n 2, 1), (75, .invokevirtual 47, 3), (78, .iastore, 1), (79, .aload_n 0, 1), (80, .dup, 1), (81, .getfield 22, 3), (84, .iconst 1, 1), (85, .iadd, 1), (86, .putfield 22, 3), (89, .aload_n 2, 1), (90, .getfield 51, 3), (93, .astore_n 2, 1), (94, .goto (-92), 3), (97, .return_, 1)]
theorem dk_11_1 : ∀ q ∈ dl_11_1, decode (mCod (MdP 11)) q.1 = .ok q.2 := by
  rw [show mCod (MdP 11) = cX1_addOrder from rfl]
  decide +kernel
def tb_11_0 : List (Nat × Op1) := [(0, oLdR 1 1), (1, oStR 2 1), (2, oLdR 2 1), (3, oNul 97), (6, oLdR 2 1), (7, oGetI 3 9), (10, oZne 89), (13, oLdR 0 1), (14, oGetR 2 0), (17, oCI 0 1), (18, oALdR 14), (19, oLdR 0 1), (20, oGetI 2 1), (23, oLdR 2 1), (24, oGetI 3 0), (27, oAStI), (28, oLdR 0 1), (29, oGetR 2 0), (32, oCI 1 1), (33, oALdR 14), (34, oLdR 0 1), (35, oGetI 2 1), (38, oLdR 2 1), (39, oGetI 3 3), (42, oAStI), (43, oLdR 0 1), (44, oGetR 2 0), (47, oCI 2 1), (48, oALdR 14), (49, oLdR 0 1), (50, oGetI 2 1), (53, oLdR 2 1), (54, oGetR 3 5), (57, oGetR 4 3), (60, oGetI 1 0), (63, oAStI), (64, oLdR 0 1), (65, oGetR 2 0), (68, oCI 3 1), (69, oALdR 14)]
theorem sm_11_0 : ∀ q ∈ tb_11_0, SM GwP MdP D A l 11 q.1 q.2 :=
  List.forall_mem_cons.mpr ⟨sd_oLdR_n 11 0 1 1 rfl (dk_11_0 (0, .aload_n 1, 1) (List.mem_of_getElem? (i := 0) rfl)),
  List.forall_mem_cons.mpr ⟨sd_oStR_n 11 1 2 2 rfl (by decide) (dk_11_0 (1, .astore_n 2, 1) (List.mem_of_getElem? (i := 1) rfl)),
  List.forall_mem_cons.mpr ⟨sd_oLdR_n 11 2 2 2 rfl (dk_11_0 (2, .aload_n 2, 1) (List.mem_of_getElem? (i := 2) rfl)),
  List.forall_mem_cons.mpr ⟨sd_ifnull 11 3 94 97 (by decide) (dk_11_0 (3, .ifnull 94, 3) (List.mem_of_getElem? (i := 3) rfl)),
  List.forall_mem_cons.mpr ⟨sd_oLdR_n 11 6 2 2 rfl (dk_11_0 (6, .aload_n 2, 1) (List.mem_of_getElem? (i := 4) rfl)),
  List.forall_mem_cons.mpr ⟨sd_oGetIN 11 7 3 9 16 RX2 TX2 10 rfl ⟨by decide, by decide⟩ rfl (by decide) rfl (fun w h => iw_11 w (uz_2 w h)) rfl "Marginalia" (List.mem_of_getElem? (i := 17) rfl) (dk_11_0 (7, .getfield 16, 3) (List.mem_of_getElem? (i := 5) rfl)),
  List.forall_mem_cons.mpr ⟨sd_if_ne 11 10 79 89 (by decide) (dk_11_0 (10, .ifCond .ne 79, 3) (List.mem_of_getElem? (i := 6) rfl)),
  List.forall_mem_cons.mpr ⟨sd_oLdR_n 11 13 0 0 rfl (dk_11_0 (13, .aload_n 0, 1) (List.mem_of_getElem? (i := 7) rfl)),
  List.forall_mem_cons.mpr ⟨sd_oGetR 11 14 2 0 13 RX1 TX1 2 rfl ⟨by decide, by decide⟩ rfl (by decide) rfl (fun w h => iw_11 w (uz_1 w h)) rfl (iw_11 _ zw23) (dk_11_0 (14, .getfield 13, 3) (List.mem_of_getElem? (i := 8) rfl)),
  List.forall_mem_cons.mpr ⟨sd_iconst 11 17 0 ⟨by decide, by decide⟩ (dk_11_0 (17, .iconst 0, 1) (List.mem_of_getElem? (i := 9) rfl)),
  List.forall_mem_cons.mpr ⟨sd_aaldA 11 18 (dk_11_0 (18, .aaload, 1) (List.mem_of_getElem? (i := 10) rfl)),
  List.forall_mem_cons.mpr ⟨sd_oLdR_n 11 19 0 0 rfl (dk_11_0 (19, .aload_n 0, 1) (List.mem_of_getElem? (i := 11) rfl)),
  List.forall_mem_cons.mpr ⟨sd_oGetI 11 20 2 1 22 RX1 TX1 2 rfl ⟨by decide, by decide⟩ rfl (by decide) rfl (fun w h => iw_11 w (uz_1 w h)) rfl (iw_11 _ zw24) (dk_11_0 (20, .getfield 22, 3) (List.mem_of_getElem? (i := 12) rfl)),
  List.forall_mem_cons.mpr ⟨sd_oLdR_n 11 23 2 2 rfl (dk_11_0 (23, .aload_n 2, 1) (List.mem_of_getElem? (i := 13) rfl)),
  List.forall_mem_cons.mpr ⟨sd_oGetIN 11 24 3 0 26 RX2 TX2 10 rfl ⟨by decide, by decide⟩ rfl (by decide) rfl (fun w h => iw_11 w (uz_2 w h)) rfl "Marginalia" (List.mem_of_getElem? (i := 18) rfl) (dk_11_0 (24, .getfield 26, 3) (List.mem_of_getElem? (i := 14) rfl)),
  List.forall_mem_cons.mpr ⟨sd_iast 11 27 (dk_11_0 (27, .iastore, 1) (List.mem_of_getElem? (i := 15) rfl)),
  List.forall_mem_cons.mpr ⟨sd_oLdR_n 11 28 0 0 rfl (dk_11_0 (28, .aload_n 0, 1) (List.mem_of_getElem? (i := 16) rfl)),
  List.forall_mem_cons.mpr ⟨sd_oGetR 11 29 2 0 13 RX1 TX1 2 rfl ⟨by decide, by decide⟩ rfl (by decide) rfl (fun w h => iw_11 w (uz_1 w h)) rfl (iw_11 _ zw23) (dk_11_0 (29, .getfield 13, 3) (List.mem_of_getElem? (i := 17) rfl)),
  List.forall_mem_cons.mpr ⟨sd_iconst 11 32 1 ⟨by decide, by decide⟩ (dk_11_0 (32, .iconst 1, 1) (List.mem_of_getElem? (i := 18) rfl)),
  List.forall_mem_cons.mpr ⟨sd_aaldA 11 33 (dk_11_0 (33, .aaload, 1) (List.mem_of_getElem? (i := 19) rfl)),
  List.forall_mem_cons.mpr ⟨sd_oLdR_n 11 34 0 0 rfl (dk_11_0 (34, .aload_n 0, 1) (List.mem_of_getElem? (i := 20) rfl)),
  List.forall_mem_cons.mpr ⟨sd_oGetI 11 35 2 1 22 RX1 TX1 2 rfl ⟨by decide, by decide⟩ rfl (by decide) rfl (fun w h => iw_11 w (uz_1 w h)) rfl (iw_11 _ zw24) (dk_11_0 (35, .getfield 22, 3) (List.mem_of_getElem? (i := 21) rfl)),
  List.forall_mem_cons.mpr ⟨sd_oLdR_n 11 38 2 2 rfl (dk_11_0 (38, .aload_n 2, 1) (List.mem_of_getElem? (i := 22) rfl)),
  List.forall_mem_cons.mpr ⟨sd_oGetIN 11 39 3 3 29 RX2 TX2 10 rfl ⟨by decide, by decide⟩ rfl (by decide) rfl (fun w h => iw_11 w (uz_2 w h)) rfl "Marginalia" (List.mem_of_getElem? (i := 19) rfl) (dk_11_0 (39, .getfield 29, 3) (List.mem_of_getElem? (i := 23) rfl)),
  List.forall_mem_cons.mpr ⟨sd_iast 11 42 (dk_11_0 (42, .iastore, 1) (List.mem_of_getElem? (i := 24) rfl)),
  List.forall_mem_cons.mpr ⟨sd_oLdR_n 11 43 0 0 rfl (dk_11_0 (43, .aload_n 0, 1) (List.mem_of_getElem? (i := 25) rfl)),
  List.forall_mem_cons.mpr ⟨sd_oGetR 11 44 2 0 13 RX1 TX1 2 rfl ⟨by decide, by decide⟩ rfl (by decide) rfl (fun w h => iw_11 w (uz_1 w h)) rfl (iw_11 _ zw23) (dk_11_0 (44, .getfield 13, 3) (List.mem_of_getElem? (i := 26) rfl)),
  List.forall_mem_cons.mpr ⟨sd_iconst 11 47 2 ⟨by decide, by decide⟩ (dk_11_0 (47, .iconst 2, 1) (List.mem_of_getElem? (i := 27) rfl)),
  List.forall_mem_cons.mpr ⟨sd_aaldA 11 48 (dk_11_0 (48, .aaload, 1) (List.mem_of_getElem? (i := 28) rfl)),
  List.forall_mem_cons.mpr ⟨sd_oLdR_n 11 49 0 0 rfl (dk_11_0 (49, .aload_n 0, 1) (List.mem_of_getElem? (i := 29) rfl)),
  List.forall_mem_cons.mpr ⟨sd_oGetI 11 50 2 1 22 RX1 TX1 2 rfl ⟨by decide, by decide⟩ rfl (by decide) rfl (fun w h => iw_11 w (uz_1 w h)) rfl (iw_11 _ zw24) (dk_11_0 (50, .getfield 22, 3) (List.mem_of_getElem? (i := 30) rfl)),
  List.forall_mem_cons.mpr ⟨sd_oLdR_n 11 53 2 2 rfl (dk_11_0 (53, .aload_n 2, 1) (List.mem_of_getElem? (i := 31) rfl)),
  List.forall_mem_cons.mpr ⟨sd_oGetRN 11 54 3 5 32 RX2 TX2 10 rfl ⟨by decide, by decide⟩ rfl (by decide) rfl (fun w h => iw_11 w (uz_2 w h)) rfl "Marginalia" (List.mem_of_getElem? (i := 20) rfl) (dk_11_0 (54, .getfield 32, 3) (List.mem_of_getElem? (i := 32) rfl)),
  List.forall_mem_cons.mpr ⟨sd_oGetRN 11 57 4 3 36 RX3 TX3 8 rfl ⟨by decide, by decide⟩ rfl (by decide) rfl (fun w h => iw_11 w (uz_3 w h)) rfl "Marginalia" (List.mem_of_getElem? (i := 21) rfl) (dk_11_0 (57, .getfield 36, 3) (List.mem_of_getElem? (i := 33) rfl)),
  List.forall_mem_cons.mpr ⟨sd_oGetIN 11 60 1 0 42 RX0 TX0 2 rfl ⟨by decide, by decide⟩ rfl (by decide) rfl (fun w h => iw_11 w (uz_0 w h)) rfl "Marginalia" (List.mem_of_getElem? (i := 22) rfl) (dk_11_0 (60, .getfield 42, 3) (List.mem_of_getElem? (i := 34) rfl)),
  List.forall_mem_cons.mpr ⟨sd_iast 11 63 (dk_11_0 (63, .iastore, 1) (List.mem_of_getElem? (i := 35) rfl)),
  List.forall_mem_cons.mpr ⟨sd_oLdR_n 11 64 0 0 rfl (dk_11_0 (64, .aload_n 0, 1) (List.mem_of_getElem? (i := 36) rfl)),
  List.forall_mem_cons.mpr ⟨sd_oGetR 11 65 2 0 13 RX1 TX1 2 rfl ⟨by decide, by decide⟩ rfl (by decide) rfl (fun w h => iw_11 w (uz_1 w h)) rfl (iw_11 _ zw23) (dk_11_0 (65, .getfield 13, 3) (List.mem_of_getElem? (i := 37) rfl)),
  List.forall_mem_cons.mpr ⟨sd_iconst 11 68 3 ⟨by decide, by decide⟩ (dk_11_0 (68, .iconst 3, 1) (List.mem_of_getElem? (i := 38) rfl)),
  List.forall_mem_cons.mpr ⟨sd_aaldA 11 69 (dk_11_0 (69, .aaload, 1) (List.mem_of_getElem? (i := 39) rfl)),
  fun _ h => nomatch h⟩⟩⟩⟩⟩⟩⟩⟩⟩⟩⟩⟩⟩⟩⟩⟩⟩⟩⟩⟩⟩⟩⟩⟩⟩⟩⟩⟩⟩⟩⟩⟩⟩⟩⟩⟩⟩⟩⟩⟩
def tb_11_1 : List (Nat × Op1) := [(70, oLdR 0 1), (71, oGetI 2 1), (74, oLdR 2 1), (75, oCallV 15 0 1 3 []), (78, oAStI), (79, oLdR 0 1), (80, oDup), (81, oGetI 2 1), (84, oCI 1 1), (85, oAdd), (86, oPutI 2 1), (89, oLdR 2 1), (90, oGetR 3 6), (93, oStR 2 1), (94, oGoto 2), (97, oRetV)]
theorem sm_11_1 : ∀ q ∈ tb_11_1, SM GwP MdP D A l 11 q.1 q.2 :=
  List.forall_mem_cons.mpr ⟨sd_oLdR_n 11 70 0 0 rfl (dk_11_1 (70, .aload_n 0, 1) (List.mem_of_getElem? (i := 0) rfl)),
  List.forall_mem_cons.mpr ⟨sd_oGetI 11 71 2 1 22 RX1 TX1 2 rfl ⟨by decide, by decide⟩ rfl (by decide) rfl (fun w h => iw_11 w (uz_1 w h)) rfl (iw_11 _ zw24) (dk_11_1 (71, .getfield 22, 3) (List.mem_of_getElem? (i := 1) rfl)),
  List.forall_mem_cons.mpr ⟨sd_oLdR_n 11 74 2 2 rfl (dk_11_1 (74, .aload_n 2, 1) (List.mem_of_getElem? (i := 2) rfl)),
  List.forall_mem_cons.mpr ⟨sd_callV 11 75 15 0 1 47 3 [] (gdV hws_11 hws_15 zw26 zw27 zw28 zw29 zw25) hws_15 rfl (by decide +kernel) rfl rfl ⟨by decide +kernel, by decide +kernel, by decide +kernel⟩ ⟨by decide, by decide⟩ (catch_nil rfl) RX2 rfl TX2 10 rfl ⟨by decide, by decide⟩ (dk_11_1 (75, .invokevirtual 47, 3) (List.mem_of_getElem? (i := 3) rfl)),
  List.forall_mem_cons.mpr ⟨sd_iast 11 78 (dk_11_1 (78, .iastore, 1) (List.mem_of_getElem? (i := 4) rfl)),
  List.forall_mem_cons.mpr ⟨sd_oLdR_n 11 79 0 0 rfl (dk_11_1 (79, .aload_n 0, 1) (List.mem_of_getElem? (i := 5) rfl)),
  List.forall_mem_cons.mpr ⟨sd_dup 11 80 (dk_11_1 (80, .dup, 1) (List.mem_of_getElem? (i := 6) rfl)),
  List.forall_mem_cons.mpr ⟨sd_oGetI 11 81 2 1 22 RX1 TX1 2 rfl ⟨by decide, by decide⟩ rfl (by decide) rfl (fun w h => iw_11 w (uz_1 w h)) rfl (iw_11 _ zw24) (dk_11_1 (81, .getfield 22, 3) (List.mem_of_getElem? (i := 7) rfl)),
  List.forall_mem_cons.mpr ⟨sd_iconst 11 84 1 ⟨by decide, by decide⟩ (dk_11_1 (84, .iconst 1, 1) (List.mem_of_getElem? (i := 8) rfl)),
  List.forall_mem_cons.mpr ⟨sd_iadd 11 85 (dk_11_1 (85, .iadd, 1) (List.mem_of_getElem? (i := 9) rfl)),
  List.forall_mem_cons.mpr ⟨sd_oPutI 11 86 2 1 22 RX1 TX1 2 rfl ⟨by decide, by decide⟩ rfl (by decide) rfl (fun w h => iw_11 w (uz_1 w h)) rfl tyX1 tyX1_ok nmX1 rfl rfl (iw_11 _ zw24) (dk_11_1 (86, .putfield 22, 3) (List.mem_of_getElem? (i := 10) rfl)),
  List.forall_mem_cons.mpr ⟨sd_oLdR_n 11 89 2 2 rfl (dk_11_1 (89, .aload_n 2, 1) (List.mem_of_getElem? (i := 11) rfl)),
  List.forall_mem_cons.mpr ⟨sd_oGetRN 11 90 3 6 51 RX2 TX2 10 rfl ⟨by decide, by decide⟩ rfl (by decide) rfl (fun w h => iw_11 w (uz_2 w h)) rfl "Marginalia" (List.mem_of_getElem? (i := 23) rfl) (dk_11_1 (90, .getfield 51, 3) (List.mem_of_getElem? (i := 12) rfl)),
  List.forall_mem_cons.mpr ⟨sd_oStR_n 11 93 2 2 rfl (by decide) (dk_11_1 (93, .astore_n 2, 1) (List.mem_of_getElem? (i := 13) rfl)),
  List.forall_mem_cons.mpr ⟨sd_goto 11 94 (-92) 2 (by decide) (dk_11_1 (94, .goto (-92), 3) (List.mem_of_getElem? (i := 14) rfl)),
  List.forall_mem_cons.mpr ⟨sd_vret 11 97 rfl (dk_11_1 (97, .return_, 1) (List.mem_of_getElem? (i := 15) rfl)),
  fun _ h => nomatch h⟩⟩⟩⟩⟩⟩⟩⟩⟩⟩⟩⟩⟩⟩⟩⟩
def tb_11 : List (Nat × Op1) := tb_11_0 ++ (tb_11_1)
theorem sm_11 : ∀ q ∈ tb_11, SM GwP MdP D A l 11 q.1 q.2 := List.forall_mem_append.mpr ⟨sm_11_0, sm_11_1⟩
-- 12: Marginalia$Note.<init>(IIILMarginalia$Note;LMarginalia$Strand;)V
def dl_12_0 : List (Nat × Instr × Nat) := [(0, .aload_n 0, 1), (1, .invokespecial 3, 3), (4, .aload_n 0, 1), (5, .iload_n 1, 1), (6, .putfield 9, 3), (9, .aload_n 0, 1), (10, .iload_n 2, 1), (11, .putfield 15, 3), (14, .aload_n 0, 1), (15, .iload_n 3, 1), (16, .putfield 18, 3), (19, .aload_n 0, 1), (20, .aload 4, 2), (22, .putfield 21, 3), (25, .aload_n 0, 1), (26, .aload 5, 2), (28, .putfield 25, 3), (31, .aload_n 0, 1), (32, .aload 4, 2), (34, .ifnonnull 7, 3), (37, .iconst 0, 1), (38, .goto 10, 3), (41, .aload 4, 2), (43, .getfield 29, 3), (46, .iconst 1, 1), (47, .iadd, 1), (48, .putfield 29, 3), (51, .return_, 1)]
theorem dk_12_0 : ∀ q ∈ dl_12_0, decode (mCod (MdP 12)) q.1 = .ok q.2 := by
  rw [show mCod (MdP 12) = cX2_init from rfl]
  decide +kernel
def tb_12_0 : List (Nat × Op1) := [(0, oLdR 0 1), (1, oObj), (4, oLdR 0 1), (5, oLdI 1 1), (6, oPutI 3 0), (9, oLdR 0 1), (10, oLdI 2 1), (11, oPutI 3 1), (14, oLdR 0 1), (15, oLdI 3 1), (16, oPutI 3 2), (19, oLdR 0 1), (20, oLdR 4 2), (22, oPutR 3 4), (25, oLdR 0 1), (26, oLdR 5 2), (28, oPutR 3 5), (31, oLdR 0 1), (32, oLdR 4 2), (34, oNNul 41), (37, oCI 0 1), (38, oGoto 48), (41, oLdR 4 2), (43, oGetI 3 3), (46, oCI 1 1), (47, oAdd), (48, oPutI 3 3), (51, oRetV)]
theorem sm_12_0 : ∀ q ∈ tb_12_0, SM GwP MdP D A l 12 q.1 q.2 :=
  List.forall_mem_cons.mpr ⟨sd_oLdR_n 12 0 0 0 rfl (dk_12_0 (0, .aload_n 0, 1) (List.mem_of_getElem? (i := 0) rfl)),
  List.forall_mem_cons.mpr ⟨sd_obj 12 1 3 (iw_12 _ zw30) (iw_12 _ zw1) (iw_12 _ zw2) (by decide) (by decide) (dk_12_0 (1, .invokespecial 3, 3) (List.mem_of_getElem? (i := 1) rfl)),
  List.forall_mem_cons.mpr ⟨sd_oLdR_n 12 4 0 0 rfl (dk_12_0 (4, .aload_n 0, 1) (List.mem_of_getElem? (i := 2) rfl)),
  List.forall_mem_cons.mpr ⟨sd_oLdI_n 12 5 1 1 rfl (dk_12_0 (5, .iload_n 1, 1) (List.mem_of_getElem? (i := 3) rfl)),
  List.forall_mem_cons.mpr ⟨sd_oPutIF 12 6 3 0 9 RX2 TX2 10 rfl ⟨by decide, by decide⟩ rfl (by decide) rfl (fun w h => iw_12 w (uz_2 w h)) rfl tyX2 tyX2_ok nmX2 rfl rfl rfl rfl (iw_12 _ zw31) (dk_12_0 (6, .putfield 9, 3) (List.mem_of_getElem? (i := 4) rfl)),
  List.forall_mem_cons.mpr ⟨sd_oLdR_n 12 9 0 0 rfl (dk_12_0 (9, .aload_n 0, 1) (List.mem_of_getElem? (i := 5) rfl)),
  List.forall_mem_cons.mpr ⟨sd_oLdI_n 12 10 2 2 rfl (dk_12_0 (10, .iload_n 2, 1) (List.mem_of_getElem? (i := 6) rfl)),
  List.forall_mem_cons.mpr ⟨sd_oPutIF 12 11 3 1 15 RX2 TX2 10 rfl ⟨by decide, by decide⟩ rfl (by decide) rfl (fun w h => iw_12 w (uz_2 w h)) rfl tyX2 tyX2_ok nmX2 rfl rfl rfl rfl (iw_12 _ zw32) (dk_12_0 (11, .putfield 15, 3) (List.mem_of_getElem? (i := 7) rfl)),
  List.forall_mem_cons.mpr ⟨sd_oLdR_n 12 14 0 0 rfl (dk_12_0 (14, .aload_n 0, 1) (List.mem_of_getElem? (i := 8) rfl)),
  List.forall_mem_cons.mpr ⟨sd_oLdI_n 12 15 3 3 rfl (dk_12_0 (15, .iload_n 3, 1) (List.mem_of_getElem? (i := 9) rfl)),
  List.forall_mem_cons.mpr ⟨sd_oPutIF 12 16 3 2 18 RX2 TX2 10 rfl ⟨by decide, by decide⟩ rfl (by decide) rfl (fun w h => iw_12 w (uz_2 w h)) rfl tyX2 tyX2_ok nmX2 rfl rfl rfl rfl (iw_12 _ zw33) (dk_12_0 (16, .putfield 18, 3) (List.mem_of_getElem? (i := 10) rfl)),
  List.forall_mem_cons.mpr ⟨sd_oLdR_n 12 19 0 0 rfl (dk_12_0 (19, .aload_n 0, 1) (List.mem_of_getElem? (i := 11) rfl)),
  List.forall_mem_cons.mpr ⟨sd_oLdR 12 20 4 (dk_12_0 (20, .aload 4, 2) (List.mem_of_getElem? (i := 12) rfl)),
  List.forall_mem_cons.mpr ⟨sd_oPutRF 12 22 3 4 21 RX2 TX2 10 rfl ⟨by decide, by decide⟩ rfl (by decide) rfl (fun w h => iw_12 w (uz_2 w h)) rfl tyX2 tyX2_ok nmX2 (Or.inl ⟨_, rfl⟩) rfl rfl rfl (iw_12 _ zw34) (dk_12_0 (22, .putfield 21, 3) (List.mem_of_getElem? (i := 13) rfl)),
  List.forall_mem_cons.mpr ⟨sd_oLdR_n 12 25 0 0 rfl (dk_12_0 (25, .aload_n 0, 1) (List.mem_of_getElem? (i := 14) rfl)),
  List.forall_mem_cons.mpr ⟨sd_oLdR 12 26 5 (dk_12_0 (26, .aload 5, 2) (List.mem_of_getElem? (i := 15) rfl)),
  List.forall_mem_cons.mpr ⟨sd_oPutRF 12 28 3 5 25 RX2 TX2 10 rfl ⟨by decide, by decide⟩ rfl (by decide) rfl (fun w h => iw_12 w (uz_2 w h)) rfl tyX2 tyX2_ok nmX2 (Or.inl ⟨_, rfl⟩) rfl rfl rfl (iw_12 _ zw35) (dk_12_0 (28, .putfield 25, 3) (List.mem_of_getElem? (i := 16) rfl)),
  List.forall_mem_cons.mpr ⟨sd_oLdR_n 12 31 0 0 rfl (dk_12_0 (31, .aload_n 0, 1) (List.mem_of_getElem? (i := 17) rfl)),
  List.forall_mem_cons.mpr ⟨sd_oLdR 12 32 4 (dk_12_0 (32, .aload 4, 2) (List.mem_of_getElem? (i := 18) rfl)),
  List.forall_mem_cons.mpr ⟨sd_ifnonnull 12 34 7 41 (by decide) (dk_12_0 (34, .ifnonnull 7, 3) (List.mem_of_getElem? (i := 19) rfl)),
  List.forall_mem_cons.mpr ⟨sd_iconst 12 37 0 ⟨by decide, by decide⟩ (dk_12_0 (37, .iconst 0, 1) (List.mem_of_getElem? (i := 20) rfl)),
  List.forall_mem_cons.mpr ⟨sd_goto 12 38 10 48 (by decide) (dk_12_0 (38, .goto 10, 3) (List.mem_of_getElem? (i := 21) rfl)),
  List.forall_mem_cons.mpr ⟨sd_oLdR 12 41 4 (dk_12_0 (41, .aload 4, 2) (List.mem_of_getElem? (i := 22) rfl)),
  List.forall_mem_cons.mpr ⟨sd_oGetI 12 43 3 3 29 RX2 TX2 10 rfl ⟨by decide, by decide⟩ rfl (by decide) rfl (fun w h => iw_12 w (uz_2 w h)) rfl (iw_12 _ zw36) (dk_12_0 (43, .getfield 29, 3) (List.mem_of_getElem? (i := 23) rfl)),
  List.forall_mem_cons.mpr ⟨sd_iconst 12 46 1 ⟨by decide, by decide⟩ (dk_12_0 (46, .iconst 1, 1) (List.mem_of_getElem? (i := 24) rfl)),
  List.forall_mem_cons.mpr ⟨sd_iadd 12 47 (dk_12_0 (47, .iadd, 1) (List.mem_of_getElem? (i := 25) rfl)),
  List.forall_mem_cons.mpr ⟨sd_oPutIF 12 48 3 3 29 RX2 TX2 10 rfl ⟨by decide, by decide⟩ rfl (by decide) rfl (fun w h => iw_12 w (uz_2 w h)) rfl tyX2 tyX2_ok nmX2 rfl rfl rfl rfl (iw_12 _ zw36) (dk_12_0 (48, .putfield 29, 3) (List.mem_of_getElem? (i := 26) rfl)),
  List.forall_mem_cons.mpr ⟨sd_vret 12 51 rfl (dk_12_0 (51, .return_, 1) (List.mem_of_getElem? (i := 27) rfl)),
  fun _ h => nomatch h⟩⟩⟩⟩⟩⟩⟩⟩⟩⟩⟩⟩⟩⟩⟩⟩⟩⟩⟩⟩⟩⟩⟩⟩⟩⟩⟩⟩
def tb_12 : List (Nat × Op1) := tb_12_0
theorem sm_12 : ∀ q ∈ tb_12, SM GwP MdP D A l 12 q.1 q.2 := sm_12_0
-- 13: Marginalia$Note.isHead()Z
def dl_13_0 : List (Nat × Instr × Nat) := [(0, .aload_n 0, 1), (1, .getfield 21, 3), (4, .ifnonnull 7, 3), (7, .iconst 1, 1), (8, .goto 4, 3), (11, .iconst 0, 1), (12, .ireturn, 1)]
theorem dk_13_0 : ∀ q ∈ dl_13_0, decode (mCod (MdP 13)) q.1 = .ok q.2 := by
  rw [show mCod (MdP 13) = cX2_isHead from rfl]
  decide +kernel
def tb_13_0 : List (Nat × Op1) := [(0, oLdR 0 1), (1, oGetR 3 4), (4, oNNul 11), (7, oCI 1 1), (8, oGoto 12), (11, oCI 0 1), (12, oRetZ)]
theorem sm_13_0 : ∀ q ∈ tb_13_0, SM GwP MdP D A l 13 q.1 q.2 :=
  List.forall_mem_cons.mpr ⟨sd_oLdR_n 13 0 0 0 rfl (dk_13_0 (0, .aload_n 0, 1) (List.mem_of_getElem? (i := 0) rfl)),
  List.forall_mem_cons.mpr ⟨sd_oGetR 13 1 3 4 21 RX2 TX2 10 rfl ⟨by decide, by decide⟩ rfl (by decide) rfl (fun w h => iw_13 w (uz_2 w h)) rfl (iw_13 _ zw34) (dk_13_0 (1, .getfield 21, 3) (List.mem_of_getElem? (i := 1) rfl)),
  List.forall_mem_cons.mpr ⟨sd_ifnonnull 13 4 7 11 (by decide) (dk_13_0 (4, .ifnonnull 7, 3) (List.mem_of_getElem? (i := 2) rfl)),
  List.forall_mem_cons.mpr ⟨sd_iconst 13 7 1 ⟨by decide, by decide⟩ (dk_13_0 (7, .iconst 1, 1) (List.mem_of_getElem? (i := 3) rfl)),
  List.forall_mem_cons.mpr ⟨sd_goto 13 8 4 12 (by decide) (dk_13_0 (8, .goto 4, 3) (List.mem_of_getElem? (i := 4) rfl)),
  List.forall_mem_cons.mpr ⟨sd_iconst 13 11 0 ⟨by decide, by decide⟩ (dk_13_0 (11, .iconst 0, 1) (List.mem_of_getElem? (i := 5) rfl)),
  List.forall_mem_cons.mpr ⟨sd_zret 13 12 rfl (dk_13_0 (12, .ireturn, 1) (List.mem_of_getElem? (i := 6) rfl)),
  fun _ h => nomatch h⟩⟩⟩⟩⟩⟩⟩
def tb_13 : List (Nat × Op1) := tb_13_0
theorem sm_13 : ∀ q ∈ tb_13, SM GwP MdP D A l 13 q.1 q.2 := sm_13_0
-- 14: Marginalia$Note.isHeadNotGone()Z
def dl_14_0 : List (Nat × Instr × Nat) := [(0, .aload_n 0, 1), (1, .getfield 21, 3), (4, .ifnonnull 14, 3), (7, .aload_n 0, 1), (8, .getfield 32, 3), (11, .ifCond .ne 7, 3), (14, .iconst 1, 1), (15, .goto 4, 3), (18, .iconst 0, 1), (19, .ireturn, 1)]
theorem dk_14_0 : ∀ q ∈ dl_14_0, decode (mCod (MdP 14)) q.1 = .ok q.2 := by
  rw [show mCod (MdP 14) = cX2_isHeadNotGone from rfl]
  decide +kernel
def tb_14_0 : List (Nat × Op1) := [(0, oLdR 0 1), (1, oGetR 3 4), (4, oNNul 18), (7, oLdR 0 1), (8, oGetI 3 9), (11, oZne 18), (14, oCI 1 1), (15, oGoto 19), (18, oCI 0 1), (19, oRetZ)]
theorem sm_14_0 : ∀ q ∈ tb_14_0, SM GwP MdP D A l 14 q.1 q.2 :=
  List.forall_mem_cons.mpr ⟨sd_oLdR_n 14 0 0 0 rfl (dk_14_0 (0, .aload_n 0, 1) (List.mem_of_getElem? (i := 0) rfl)),
  List.forall_mem_cons.mpr ⟨sd_oGetR 14 1 3 4 21 RX2 TX2 10 rfl ⟨by decide, by decide⟩ rfl (by decide) rfl (fun w h => iw_14 w (uz_2 w h)) rfl (iw_14 _ zw34) (dk_14_0 (1, .getfield 21, 3) (List.mem_of_getElem? (i := 1) rfl)),
  List.forall_mem_cons.mpr ⟨sd_ifnonnull 14 4 14 18 (by decide) (dk_14_0 (4, .ifnonnull 14, 3) (List.mem_of_getElem? (i := 2) rfl)),
  List.forall_mem_cons.mpr ⟨sd_oLdR_n 14 7 0 0 rfl (dk_14_0 (7, .aload_n 0, 1) (List.mem_of_getElem? (i := 3) rfl)),
  List.forall_mem_cons.mpr ⟨sd_oGetI 14 8 3 9 32 RX2 TX2 10 rfl ⟨by decide, by decide⟩ rfl (by decide) rfl (fun w h => iw_14 w (uz_2 w h)) rfl (iw_14 _ zw37) (dk_14_0 (8, .getfield 32, 3) (List.mem_of_getElem? (i := 4) rfl)),
  List.forall_mem_cons.mpr ⟨sd_if_ne 14 11 7 18 (by decide) (dk_14_0 (11, .ifCond .ne 7, 3) (List.mem_of_getElem? (i := 5) rfl)),
  List.forall_mem_cons.mpr ⟨sd_iconst 14 14 1 ⟨by decide, by decide⟩ (dk_14_0 (14, .iconst 1, 1) (List.mem_of_getElem? (i := 6) rfl)),
  List.forall_mem_cons.mpr ⟨sd_goto 14 15 4 19 (by decide) (dk_14_0 (15, .goto 4, 3) (List.mem_of_getElem? (i := 7) rfl)),
  List.forall_mem_cons.mpr ⟨sd_iconst 14 18 0 ⟨by decide, by decide⟩ (dk_14_0 (18, .iconst 0, 1) (List.mem_of_getElem? (i := 8) rfl)),
  List.forall_mem_cons.mpr ⟨sd_zret 14 19 rfl (dk_14_0 (19, .ireturn, 1) (List.mem_of_getElem? (i := 9) rfl)),
  fun _ h => nomatch h⟩⟩⟩⟩⟩⟩⟩⟩⟩⟩
def tb_14 : List (Nat × Op1) := tb_14_0
theorem sm_14 : ∀ q ∈ tb_14, SM GwP MdP D A l 14 q.1 q.2 := sm_14_0
-- 15: Marginalia$Note.contentShown()I
def dl_15_0 : List (Nat × Instr × Nat) := [(0, .aload_n 0, 1), (1, .getfield 36, 3), (4, .ifCond .eq 7, 3), (7, .iconst (-1), 1), (8, .goto 7, 3), (11, .aload_n 0, 1), (12, .getfield 18, 3), (15, .ireturn, 1)]
theorem dk_15_0 : ∀ q ∈ dl_15_0, decode (mCod (MdP 15)) q.1 = .ok q.2 := by
  rw [show mCod (MdP 15) = cX2_contentShown from rfl]
  decide +kernel
def tb_15_0 : List (Nat × Op1) := [(0, oLdR 0 1), (1, oGetI 3 8), (4, oZeq 11), (7, oCI (-1) 1), (8, oGoto 15), (11, oLdR 0 1), (12, oGetI 3 2), (15, oRetI)]
theorem sm_15_0 : ∀ q ∈ tb_15_0, SM GwP MdP D A l 15 q.1 q.2 :=
  List.forall_mem_cons.mpr ⟨sd_oLdR_n 15 0 0 0 rfl (dk_15_0 (0, .aload_n 0, 1) (List.mem_of_getElem? (i := 0) rfl)),
  List.forall_mem_cons.mpr ⟨sd_oGetI 15 1 3 8 36 RX2 TX2 10 rfl ⟨by decide, by decide⟩ rfl (by decide) rfl (fun w h => iw_15 w (uz_2 w h)) rfl (iw_15 _ zw38) (dk_15_0 (1, .getfield 36, 3) (List.mem_of_getElem? (i := 1) rfl)),
  List.forall_mem_cons.mpr ⟨sd_if_eq 15 4 7 11 (by decide) (dk_15_0 (4, .ifCond .eq 7, 3) (List.mem_of_getElem? (i := 2) rfl)),
  List.forall_mem_cons.mpr ⟨sd_iconst 15 7 (-1) ⟨by decide, by decide⟩ (dk_15_0 (7, .iconst (-1), 1) (List.mem_of_getElem? (i := 3) rfl)),
  List.forall_mem_cons.mpr ⟨sd_goto 15 8 7 15 (by decide) (dk_15_0 (8, .goto 7, 3) (List.mem_of_getElem? (i := 4) rfl)),
  List.forall_mem_cons.mpr ⟨sd_oLdR_n 15 11 0 0 rfl (dk_15_0 (11, .aload_n 0, 1) (List.mem_of_getElem? (i := 5) rfl)),
  List.forall_mem_cons.mpr ⟨sd_oGetI 15 12 3 2 18 RX2 TX2 10 rfl ⟨by decide, by decide⟩ rfl (by decide) rfl (fun w h => iw_15 w (uz_2 w h)) rfl (iw_15 _ zw33) (dk_15_0 (12, .getfield 18, 3) (List.mem_of_getElem? (i := 6) rfl)),
  List.forall_mem_cons.mpr ⟨sd_iret 15 15 rfl (dk_15_0 (15, .ireturn, 1) (List.mem_of_getElem? (i := 7) rfl)),
  fun _ h => nomatch h⟩⟩⟩⟩⟩⟩⟩⟩
def tb_15 : List (Nat × Op1) := tb_15_0
theorem sm_15 : ∀ q ∈ tb_15, SM GwP MdP D A l 15 q.1 q.2 := sm_15_0
-- 16: Marginalia$Note.addReply(LMarginalia$Note;)V
def dl_16_0 : List (Nat × Instr × Nat) := [(0, .aload_n 0, 1), (1, .astore_n 2, 1), (2, .aload_n 2, 1), (3, .getfield 39, 3), (6, .ifnull 25, 3), (9, .aload_n 2, 1), (10, .getfield 39, 3), (13, .getfield 29, 3), (16, .aload_n 0, 1), (17, .getfield 29, 3), (20, .if_icmp .le 11, 3), (23, .aload_n 2, 1), (24, .getfield 39, 3), (27, .astore_n 2, 1), (28, .goto (-26), 3), (31, .aload_n 1, 1), (32, .aload_n 2, 1), (33, .getfield 39, 3), (36, .putfield 39, 3), (39, .aload_n 2, 1), (40, .aload_n 1, 1), (41, .putfield 39, 3), (44, .aload_n 0, 1), (45, .dup, 1), (46, .getfield 42, 3), (49, .iconst 1, 1), (50, .iadd, 1), (51, .putfield 42, 3), (54, .return_, 1)]
theorem dk_16_0 : ∀ q ∈ dl_16_0, decode (mCod (MdP 16)) q.1 = .ok q.2 := by
  rw [show mCod (MdP 16) = cX2_addReply from rfl]
  decide +kernel
def tb_16_0 : List (Nat × Op1) := [(0, oLdR 0 1), (1, oStR 2 1), (2, oLdR 2 1), (3, oGetR 3 6), (6, oNul 31), (9, oLdR 2 1), (10, oGetR 3 6), (13, oGetI 3 3), (16, oLdR 0 1), (17, oGetI 3 3), (20, oCle 31), (23, oLdR 2 1), (24, oGetR 3 6), (27, oStR 2 1), (28, oGoto 2), (31, oLdR 1 1), (32, oLdR 2 1), (33, oGetR 3 6), (36, oPutR 3 6), (39, oLdR 2 1), (40, oLdR 1 1), (41, oPutR 3 6), (44, oLdR 0 1), (45, oDup), (46, oGetI 3 7), (49, oCI 1 1), (50, oAdd), (51, oPutI 3 7), (54, oRetV)]
theorem sm_16_0 : ∀ q ∈ tb_16_0, SM GwP MdP D A l 16 q.1 q.2 :=
  List.forall_mem_cons.mpr ⟨sd_oLdR_n 16 0 0 0 rfl (dk_16_0 (0, .aload_n 0, 1) (List.mem_of_getElem? (i := 0) rfl)),
  List.forall_mem_cons.mpr ⟨sd_oStR_n 16 1 2 2 rfl (by decide) (dk_16_0 (1, .astore_n 2, 1) (List.mem_of_getElem? (i := 1) rfl)),
  List.forall_mem_cons.mpr ⟨sd_oLdR_n 16 2 2 2 rfl (dk_16_0 (2, .aload_n 2, 1) (List.mem_of_getElem? (i := 2) rfl)),
  List.forall_mem_cons.mpr ⟨sd_oGetR 16 3 3 6 39 RX2 TX2 10 rfl ⟨by decide, by decide⟩ rfl (by decide) rfl (fun w h => iw_16 w (uz_2 w h)) rfl (iw_16 _ zw39) (dk_16_0 (3, .getfield 39, 3) (List.mem_of_getElem? (i := 3) rfl)),
  List.forall_mem_cons.mpr ⟨sd_ifnull 16 6 25 31 (by decide) (dk_16_0 (6, .ifnull 25, 3) (List.mem_of_getElem? (i := 4) rfl)),
  List.forall_mem_cons.mpr ⟨sd_oLdR_n 16 9 2 2 rfl (dk_16_0 (9, .aload_n 2, 1) (List.mem_of_getElem? (i := 5) rfl)),
  List.forall_mem_cons.mpr ⟨sd_oGetR 16 10 3 6 39 RX2 TX2 10 rfl ⟨by decide, by decide⟩ rfl (by decide) rfl (fun w h => iw_16 w (uz_2 w h)) rfl (iw_16 _ zw39) (dk_16_0 (10, .getfield 39, 3) (List.mem_of_getElem? (i := 6) rfl)),
  List.forall_mem_cons.mpr ⟨sd_oGetI 16 13 3 3 29 RX2 TX2 10 rfl ⟨by decide, by decide⟩ rfl (by decide) rfl (fun w h => iw_16 w (uz_2 w h)) rfl (iw_16 _ zw36) (dk_16_0 (13, .getfield 29, 3) (List.mem_of_getElem? (i := 7) rfl)),
  List.forall_mem_cons.mpr ⟨sd_oLdR_n 16 16 0 0 rfl (dk_16_0 (16, .aload_n 0, 1) (List.mem_of_getElem? (i := 8) rfl)),
  List.forall_mem_cons.mpr ⟨sd_oGetI 16 17 3 3 29 RX2 TX2 10 rfl ⟨by decide, by decide⟩ rfl (by decide) rfl (fun w h => iw_16 w (uz_2 w h)) rfl (iw_16 _ zw36) (dk_16_0 (17, .getfield 29, 3) (List.mem_of_getElem? (i := 9) rfl)),
  List.forall_mem_cons.mpr ⟨sd_icmp_le 16 20 11 31 (by decide) (dk_16_0 (20, .if_icmp .le 11, 3) (List.mem_of_getElem? (i := 10) rfl)),
  List.forall_mem_cons.mpr ⟨sd_oLdR_n 16 23 2 2 rfl (dk_16_0 (23, .aload_n 2, 1) (List.mem_of_getElem? (i := 11) rfl)),
  List.forall_mem_cons.mpr ⟨sd_oGetR 16 24 3 6 39 RX2 TX2 10 rfl ⟨by decide, by decide⟩ rfl (by decide) rfl (fun w h => iw_16 w (uz_2 w h)) rfl (iw_16 _ zw39) (dk_16_0 (24, .getfield 39, 3) (List.mem_of_getElem? (i := 12) rfl)),
  List.forall_mem_cons.mpr ⟨sd_oStR_n 16 27 2 2 rfl (by decide) (dk_16_0 (27, .astore_n 2, 1) (List.mem_of_getElem? (i := 13) rfl)),
  List.forall_mem_cons.mpr ⟨sd_goto 16 28 (-26) 2 (by decide) (dk_16_0 (28, .goto (-26), 3) (List.mem_of_getElem? (i := 14) rfl)),
  List.forall_mem_cons.mpr ⟨sd_oLdR_n 16 31 1 1 rfl (dk_16_0 (31, .aload_n 1, 1) (List.mem_of_getElem? (i := 15) rfl)),
  List.forall_mem_cons.mpr ⟨sd_oLdR_n 16 32 2 2 rfl (dk_16_0 (32, .aload_n 2, 1) (List.mem_of_getElem? (i := 16) rfl)),
  List.forall_mem_cons.mpr ⟨sd_oGetR 16 33 3 6 39 RX2 TX2 10 rfl ⟨by decide, by decide⟩ rfl (by decide) rfl (fun w h => iw_16 w (uz_2 w h)) rfl (iw_16 _ zw39) (dk_16_0 (33, .getfield 39, 3) (List.mem_of_getElem? (i := 17) rfl)),
  List.forall_mem_cons.mpr ⟨sd_oPutR 16 36 3 6 39 RX2 TX2 10 rfl ⟨by decide, by decide⟩ rfl (by decide) rfl (fun w h => iw_16 w (uz_2 w h)) rfl tyX2 tyX2_ok nmX2 (Or.inl ⟨_, rfl⟩) rfl (iw_16 _ zw39) (dk_16_0 (36, .putfield 39, 3) (List.mem_of_getElem? (i := 18) rfl)),
  List.forall_mem_cons.mpr ⟨sd_oLdR_n 16 39 2 2 rfl (dk_16_0 (39, .aload_n 2, 1) (List.mem_of_getElem? (i := 19) rfl)),
  List.forall_mem_cons.mpr ⟨sd_oLdR_n 16 40 1 1 rfl (dk_16_0 (40, .aload_n 1, 1) (List.mem_of_getElem? (i := 20) rfl)),
  List.forall_mem_cons.mpr ⟨sd_oPutR 16 41 3 6 39 RX2 TX2 10 rfl ⟨by decide, by decide⟩ rfl (by decide) rfl (fun w h => iw_16 w (uz_2 w h)) rfl tyX2 tyX2_ok nmX2 (Or.inl ⟨_, rfl⟩) rfl (iw_16 _ zw39) (dk_16_0 (41, .putfield 39, 3) (List.mem_of_getElem? (i := 21) rfl)),
  List.forall_mem_cons.mpr ⟨sd_oLdR_n 16 44 0 0 rfl (dk_16_0 (44, .aload_n 0, 1) (List.mem_of_getElem? (i := 22) rfl)),
  List.forall_mem_cons.mpr ⟨sd_dup 16 45 (dk_16_0 (45, .dup, 1) (List.mem_of_getElem? (i := 23) rfl)),
  List.forall_mem_cons.mpr ⟨sd_oGetI 16 46 3 7 42 RX2 TX2 10 rfl ⟨by decide, by decide⟩ rfl (by decide) rfl (fun w h => iw_16 w (uz_2 w h)) rfl (iw_16 _ zw40) (dk_16_0 (46, .getfield 42, 3) (List.mem_of_getElem? (i := 24) rfl)),
  List.forall_mem_cons.mpr ⟨sd_iconst 16 49 1 ⟨by decide, by decide⟩ (dk_16_0 (49, .iconst 1, 1) (List.mem_of_getElem? (i := 25) rfl)),
  List.forall_mem_cons.mpr ⟨sd_iadd 16 50 (dk_16_0 (50, .iadd, 1) (List.mem_of_getElem? (i := 26) rfl)),
  List.forall_mem_cons.mpr ⟨sd_oPutI 16 51 3 7 42 RX2 TX2 10 rfl ⟨by decide, by decide⟩ rfl (by decide) rfl (fun w h => iw_16 w (uz_2 w h)) rfl tyX2 tyX2_ok nmX2 rfl rfl (iw_16 _ zw40) (dk_16_0 (51, .putfield 42, 3) (List.mem_of_getElem? (i := 27) rfl)),
  List.forall_mem_cons.mpr ⟨sd_vret 16 54 rfl (dk_16_0 (54, .return_, 1) (List.mem_of_getElem? (i := 28) rfl)),
  fun _ h => nomatch h⟩⟩⟩⟩⟩⟩⟩⟩⟩⟩⟩⟩⟩⟩⟩⟩⟩⟩⟩⟩⟩⟩⟩⟩⟩⟩⟩⟩⟩
def tb_16 : List (Nat × Op1) := tb_16_0
theorem sm_16 : ∀ q ∈ tb_16, SM GwP MdP D A l 16 q.1 q.2 := sm_16_0
-- 17: Marginalia$Note.emptyAndDrop()I
def dl_17_0 : List (Nat × Instr × Nat) := [(0, .aload_n 0, 1), (1, .iconst 1, 1), (2, .putfield 36, 3), (5, .iconst 0, 1), (6, .istore_n 1, 1), (7, .aload_n 0, 1), (8, .astore_n 2, 1), (9, .aload_n 2, 1), (10, .ifnull 53, 3), (13, .aload_n 2, 1), (14, .getfield 36, 3), (17, .ifCond .eq 46, 3), (20, .aload_n 2, 1), (21, .getfield 42, 3), (24, .ifCond .ne 39, 3), (27, .aload_n 2, 1), (28, .iconst 1, 1), (29, .putfield 32, 3), (32, .iinc 1 1, 3), (35, .aload_n 2, 1), (36, .getfield 21, 3), (39, .ifnull 16, 3), (42, .aload_n 2, 1), (43, .getfield 21, 3), (46, .dup, 1), (47, .getfield 42, 3), (50, .iconst 1, 1), (51, .isub, 1), (52, .putfield 42, 3), (55, .aload_n 2, 1), (56, .getfield 21, 3), (59, .astore_n 2, 1), (60, .goto (-51), 3), (63, .iload_n 1, 1), (64, .ireturn, 1)]
theorem dk_17_0 : ∀ q ∈ dl_17_0, decode (mCod (MdP 17)) q.1 = .ok q.2 := by
  rw [show mCod (MdP 17) = cX2_emptyAndDrop from rfl]
  decide +kernel
def tb_17_0 : List (Nat × Op1) := [(0, oLdR 0 1), (1, oCI 1 1), (2, oPutZ 3 8), (5, oCI 0 1), (6, oStI 1 1), (7, oLdR 0 1), (8, oStR 2 1), (9, oLdR 2 1), (10, oNul 63), (13, oLdR 2 1), (14, oGetI 3 8), (17, oZeq 63), (20, oLdR 2 1), (21, oGetI 3 7), (24, oZne 63), (27, oLdR 2 1), (28, oCI 1 1), (29, oPutZ 3 9), (32, oInc 1 1), (35, oLdR 2 1), (36, oGetR 3 4), (39, oNul 55), (42, oLdR 2 1), (43, oGetR 3 4), (46, oDup), (47, oGetI 3 7), (50, oCI 1 1), (51, oSub), (52, oPutI 3 7), (55, oLdR 2 1), (56, oGetR 3 4), (59, oStR 2 1), (60, oGoto 9), (63, oLdI 1 1), (64, oRetI)]
theorem sm_17_0 : ∀ q ∈ tb_17_0, SM GwP MdP D A l 17 q.1 q.2 :=
  List.forall_mem_cons.mpr ⟨sd_oLdR_n 17 0 0 0 rfl (dk_17_0 (0, .aload_n 0, 1) (List.mem_of_getElem? (i := 0) rfl)),
  List.forall_mem_cons.mpr ⟨sd_iconst 17 1 1 ⟨by decide, by decide⟩ (dk_17_0 (1, .iconst 1, 1) (List.mem_of_getElem? (i := 1) rfl)),
  List.forall_mem_cons.mpr ⟨sd_oPutZ 17 2 3 8 36 RX2 TX2 10 rfl ⟨by decide, by decide⟩ rfl (by decide) rfl (fun w h => iw_17 w (uz_2 w h)) rfl tyX2 tyX2_ok nmX2 rfl rfl (iw_17 _ zw38) (dk_17_0 (2, .putfield 36, 3) (List.mem_of_getElem? (i := 2) rfl)),
  List.forall_mem_cons.mpr ⟨sd_iconst 17 5 0 ⟨by decide, by decide⟩ (dk_17_0 (5, .iconst 0, 1) (List.mem_of_getElem? (i := 3) rfl)),
  List.forall_mem_cons.mpr ⟨sd_oStI_n 17 6 1 1 rfl (by decide) (dk_17_0 (6, .istore_n 1, 1) (List.mem_of_getElem? (i := 4) rfl)),
  List.forall_mem_cons.mpr ⟨sd_oLdR_n 17 7 0 0 rfl (dk_17_0 (7, .aload_n 0, 1) (List.mem_of_getElem? (i := 5) rfl)),
  List.forall_mem_cons.mpr ⟨sd_oStR_n 17 8 2 2 rfl (by decide) (dk_17_0 (8, .astore_n 2, 1) (List.mem_of_getElem? (i := 6) rfl)),
  List.forall_mem_cons.mpr ⟨sd_oLdR_n 17 9 2 2 rfl (dk_17_0 (9, .aload_n 2, 1) (List.mem_of_getElem? (i := 7) rfl)),
  List.forall_mem_cons.mpr ⟨sd_ifnull 17 10 53 63 (by decide) (dk_17_0 (10, .ifnull 53, 3) (List.mem_of_getElem? (i := 8) rfl)),
  List.forall_mem_cons.mpr ⟨sd_oLdR_n 17 13 2 2 rfl (dk_17_0 (13, .aload_n 2, 1) (List.mem_of_getElem? (i := 9) rfl)),
  List.forall_mem_cons.mpr ⟨sd_oGetI 17 14 3 8 36 RX2 TX2 10 rfl ⟨by decide, by decide⟩ rfl (by decide) rfl (fun w h => iw_17 w (uz_2 w h)) rfl (iw_17 _ zw38) (dk_17_0 (14, .getfield 36, 3) (List.mem_of_getElem? (i := 10) rfl)),
  List.forall_mem_cons.mpr ⟨sd_if_eq 17 17 46 63 (by decide) (dk_17_0 (17, .ifCond .eq 46, 3) (List.mem_of_getElem? (i := 11) rfl)),
  List.forall_mem_cons.mpr ⟨sd_oLdR_n 17 20 2 2 rfl (dk_17_0 (20, .aload_n 2, 1) (List.mem_of_getElem? (i := 12) rfl)),
  List.forall_mem_cons.mpr ⟨sd_oGetI 17 21 3 7 42 RX2 TX2 10 rfl ⟨by decide, by decide⟩ rfl (by decide) rfl (fun w h => iw_17 w (uz_2 w h)) rfl (iw_17 _ zw40) (dk_17_0 (21, .getfield 42, 3) (List.mem_of_getElem? (i := 13) rfl)),
  List.forall_mem_cons.mpr ⟨sd_if_ne 17 24 39 63 (by decide) (dk_17_0 (24, .ifCond .ne 39, 3) (List.mem_of_getElem? (i := 14) rfl)),
  List.forall_mem_cons.mpr ⟨sd_oLdR_n 17 27 2 2 rfl (dk_17_0 (27, .aload_n 2, 1) (List.mem_of_getElem? (i := 15) rfl)),
  List.forall_mem_cons.mpr ⟨sd_iconst 17 28 1 ⟨by decide, by decide⟩ (dk_17_0 (28, .iconst 1, 1) (List.mem_of_getElem? (i := 16) rfl)),
  List.forall_mem_cons.mpr ⟨sd_oPutZ 17 29 3 9 32 RX2 TX2 10 rfl ⟨by decide, by decide⟩ rfl (by decide) rfl (fun w h => iw_17 w (uz_2 w h)) rfl tyX2 tyX2_ok nmX2 rfl rfl (iw_17 _ zw37) (dk_17_0 (29, .putfield 32, 3) (List.mem_of_getElem? (i := 17) rfl)),
  List.forall_mem_cons.mpr ⟨sd_iinc 17 32 1 1 (by decide) (dk_17_0 (32, .iinc 1 1, 3) (List.mem_of_getElem? (i := 18) rfl)),
  List.forall_mem_cons.mpr ⟨sd_oLdR_n 17 35 2 2 rfl (dk_17_0 (35, .aload_n 2, 1) (List.mem_of_getElem? (i := 19) rfl)),
  List.forall_mem_cons.mpr ⟨sd_oGetR 17 36 3 4 21 RX2 TX2 10 rfl ⟨by decide, by decide⟩ rfl (by decide) rfl (fun w h => iw_17 w (uz_2 w h)) rfl (iw_17 _ zw34) (dk_17_0 (36, .getfield 21, 3) (List.mem_of_getElem? (i := 20) rfl)),
  List.forall_mem_cons.mpr ⟨sd_ifnull 17 39 16 55 (by decide) (dk_17_0 (39, .ifnull 16, 3) (List.mem_of_getElem? (i := 21) rfl)),
  List.forall_mem_cons.mpr ⟨sd_oLdR_n 17 42 2 2 rfl (dk_17_0 (42, .aload_n 2, 1) (List.mem_of_getElem? (i := 22) rfl)),
  List.forall_mem_cons.mpr ⟨sd_oGetR 17 43 3 4 21 RX2 TX2 10 rfl ⟨by decide, by decide⟩ rfl (by decide) rfl (fun w h => iw_17 w (uz_2 w h)) rfl (iw_17 _ zw34) (dk_17_0 (43, .getfield 21, 3) (List.mem_of_getElem? (i := 23) rfl)),
  List.forall_mem_cons.mpr ⟨sd_dup 17 46 (dk_17_0 (46, .dup, 1) (List.mem_of_getElem? (i := 24) rfl)),
  List.forall_mem_cons.mpr ⟨sd_oGetI 17 47 3 7 42 RX2 TX2 10 rfl ⟨by decide, by decide⟩ rfl (by decide) rfl (fun w h => iw_17 w (uz_2 w h)) rfl (iw_17 _ zw40) (dk_17_0 (47, .getfield 42, 3) (List.mem_of_getElem? (i := 25) rfl)),
  List.forall_mem_cons.mpr ⟨sd_iconst 17 50 1 ⟨by decide, by decide⟩ (dk_17_0 (50, .iconst 1, 1) (List.mem_of_getElem? (i := 26) rfl)),
  List.forall_mem_cons.mpr ⟨sd_isub 17 51 (dk_17_0 (51, .isub, 1) (List.mem_of_getElem? (i := 27) rfl)),
  List.forall_mem_cons.mpr ⟨sd_oPutI 17 52 3 7 42 RX2 TX2 10 rfl ⟨by decide, by decide⟩ rfl (by decide) rfl (fun w h => iw_17 w (uz_2 w h)) rfl tyX2 tyX2_ok nmX2 rfl rfl (iw_17 _ zw40) (dk_17_0 (52, .putfield 42, 3) (List.mem_of_getElem? (i := 28) rfl)),
  List.forall_mem_cons.mpr ⟨sd_oLdR_n 17 55 2 2 rfl (dk_17_0 (55, .aload_n 2, 1) (List.mem_of_getElem? (i := 29) rfl)),
  List.forall_mem_cons.mpr ⟨sd_oGetR 17 56 3 4 21 RX2 TX2 10 rfl ⟨by decide, by decide⟩ rfl (by decide) rfl (fun w h => iw_17 w (uz_2 w h)) rfl (iw_17 _ zw34) (dk_17_0 (56, .getfield 21, 3) (List.mem_of_getElem? (i := 30) rfl)),
  List.forall_mem_cons.mpr ⟨sd_oStR_n 17 59 2 2 rfl (by decide) (dk_17_0 (59, .astore_n 2, 1) (List.mem_of_getElem? (i := 31) rfl)),
  List.forall_mem_cons.mpr ⟨sd_goto 17 60 (-51) 9 (by decide) (dk_17_0 (60, .goto (-51), 3) (List.mem_of_getElem? (i := 32) rfl)),
  List.forall_mem_cons.mpr ⟨sd_oLdI_n 17 63 1 1 rfl (dk_17_0 (63, .iload_n 1, 1) (List.mem_of_getElem? (i := 33) rfl)),
  List.forall_mem_cons.mpr ⟨sd_iret 17 64 rfl (dk_17_0 (64, .ireturn, 1) (List.mem_of_getElem? (i := 34) rfl)),
  fun _ h => nomatch h⟩⟩⟩⟩⟩⟩⟩⟩⟩⟩⟩⟩⟩⟩⟩⟩⟩⟩⟩⟩⟩⟩⟩⟩⟩⟩⟩⟩⟩⟩⟩⟩⟩⟩⟩
def tb_17 : List (Nat × Op1) := tb_17_0
theorem sm_17 : ∀ q ∈ tb_17, SM GwP MdP D A l 17 q.1 q.2 := sm_17_0
-- 18: Marginalia$Note.fact(I)I
def dl_18_0 : List (Nat × Instr × Nat) := [(0, .iload_n 1, 1), (1, .tableswitch 148 0 9 #[55, 60, 79, 87, 92, 103, 114, 119, 124, 140], 55), (56, .aload_n 0, 1), (57, .getfield 15, 3), (60, .ireturn, 1), (61, .aload_n 0, 1), (62, .getfield 21, 3), (65, .ifnonnull 7, 3), (68, .iconst (-1), 1), (69, .goto 10, 3), (72, .aload_n 0, 1), (73, .getfield 21, 3), (76, .getfield 9, 3), (79, .ireturn, 1), (80, .aload_n 0, 1), (81, .getfield 25, 3), (84, .getfield 45, 3), (87, .ireturn, 1), (88, .aload_n 0, 1), (89, .invokevirtual 50, 3), (92, .ireturn, 1), (93, .aload_n 0, 1), (94, .getfield 25, 3), (97, .getfield 54, 3), (100, .getfield 58, 3), (103, .ireturn, 1), (104, .aload_n 0, 1), (105, .getfield 25, 3), (108, .getfield 54, 3), (111, .getfield 63, 3), (114, .ireturn, 1), (115, .aload_n 0, 1), (116, .getfield 29, 3), (119, .ireturn, 1), (120, .aload_n 0, 1), (121, .getfield 42, 3), (124, .ireturn, 1), (125, .aload_n 0, 1), (126, .getfield 25, 3), (129, .getfield 66, 3)]
theorem dk_18_0 : ∀ q ∈ dl_18_0, decode (mCod (MdP 18)) q.1 = .ok q.2 := by
  rw [show mCod (MdP 18) = cX2_fact from rfl]
  decide +kernel
def dl_18_1 : List (Nat × Instr × Nat) := [(132, .ifCond .eq 7, 3), (135, .iconst 1, 1), (136, .goto 4, 3), (139, .iconst 0, 1), (140, .ireturn, 1), (141, .aload_n 0, 1), (142, .getfield 25, 3), (145, .getfield 69, 3), (148, .ireturn, 1), (149, .aload_n 0, 1), (150, .getfield 25, 3), (153, .getfield 72, 3), (156, .ireturn, 1)]
theorem dk_18_1 : ∀ q ∈ dl_18_1, decode (mCod (MdP 18)) q.1 = .ok q.2 := by
  rw [show mCod (MdP 18) = cX2_fact from rfl]
  decide +kernel
def tb_18_0 : List (Nat × Op1) := [(0, oLdI 1 1), (1, oSw 0 [56, 61, 80, 88, 93, 104, 115, 120, 125, 141] 149), (56, oLdR 0 1), (57, oGetI 3 1), (60, oRetI), (61, oLdR 0 1), (62, oGetR 3 4), (65, oNNul 72), (68, oCI (-1) 1), (69, oGoto 79), (72, oLdR 0 1), (73, oGetR 3 4), (76, oGetI 3 0), (79, oRetI), (80, oLdR 0 1), (81, oGetR 3 5), (84, oGetI 4 0), (87, oRetI), (88, oLdR 0 1), (89, oCallV 15 0 1 3 []), (92, oRetI), (93, oLdR 0 1), (94, oGetR 3 5), (97, oGetR 4 3), (100, oGetI 1 0), (103, oRetI), (104, oLdR 0 1), (105, oGetR 3 5), (108, oGetR 4 3), (111, oGetI 1 1), (114, oRetI), (115, oLdR 0 1), (116, oGetI 3 3), (119, oRetI), (120, oLdR 0 1), (121, oGetI 3 7), (124, oRetI), (125, oLdR 0 1), (126, oGetR 3 5), (129, oGetI 4 5)]
theorem sm_18_0 : ∀ q ∈ tb_18_0, SM GwP MdP D A l 18 q.1 q.2 :=
  List.forall_mem_cons.mpr ⟨sd_oLdI_n 18 0 1 1 rfl (dk_18_0 (0, .iload_n 1, 1) (List.mem_of_getElem? (i := 0) rfl)),
  List.forall_mem_cons.mpr ⟨sd_tableswitch 18 1 148 0 9 #[55, 60, 79, 87, 92, 103, 114, 119, 124, 140] 55 [56, 61, 80, 88, 93, 104, 115, 120, 125, 141] 149 (by decide) (by decide) (by decide) (dk_18_0 (1, .tableswitch 148 0 9 #[55, 60, 79, 87, 92, 103, 114, 119, 124, 140], 55) (List.mem_of_getElem? (i := 1) rfl)),
  List.forall_mem_cons.mpr ⟨sd_oLdR_n 18 56 0 0 rfl (dk_18_0 (56, .aload_n 0, 1) (List.mem_of_getElem? (i := 2) rfl)),
  List.forall_mem_cons.mpr ⟨sd_oGetI 18 57 3 1 15 RX2 TX2 10 rfl ⟨by decide, by decide⟩ rfl (by decide) rfl (fun w h => iw_18 w (uz_2 w h)) rfl (iw_18 _ zw32) (dk_18_0 (57, .getfield 15, 3) (List.mem_of_getElem? (i := 3) rfl)),
  List.forall_mem_cons.mpr ⟨sd_iret 18 60 rfl (dk_18_0 (60, .ireturn, 1) (List.mem_of_getElem? (i := 4) rfl)),
  List.forall_mem_cons.mpr ⟨sd_oLdR_n 18 61 0 0 rfl (dk_18_0 (61, .aload_n 0, 1) (List.mem_of_getElem? (i := 5) rfl)),
  List.forall_mem_cons.mpr ⟨sd_oGetR 18 62 3 4 21 RX2 TX2 10 rfl ⟨by decide, by decide⟩ rfl (by decide) rfl (fun w h => iw_18 w (uz_2 w h)) rfl (iw_18 _ zw34) (dk_18_0 (62, .getfield 21, 3) (List.mem_of_getElem? (i := 6) rfl)),
  List.forall_mem_cons.mpr ⟨sd_ifnonnull 18 65 7 72 (by decide) (dk_18_0 (65, .ifnonnull 7, 3) (List.mem_of_getElem? (i := 7) rfl)),
  List.forall_mem_cons.mpr ⟨sd_iconst 18 68 (-1) ⟨by decide, by decide⟩ (dk_18_0 (68, .iconst (-1), 1) (List.mem_of_getElem? (i := 8) rfl)),
  List.forall_mem_cons.mpr ⟨sd_goto 18 69 10 79 (by decide) (dk_18_0 (69, .goto 10, 3) (List.mem_of_getElem? (i := 9) rfl)),
  List.forall_mem_cons.mpr ⟨sd_oLdR_n 18 72 0 0 rfl (dk_18_0 (72, .aload_n 0, 1) (List.mem_of_getElem? (i := 10) rfl)),
  List.forall_mem_cons.mpr ⟨sd_oGetR 18 73 3 4 21 RX2 TX2 10 rfl ⟨by decide, by decide⟩ rfl (by decide) rfl (fun w h => iw_18 w (uz_2 w h)) rfl (iw_18 _ zw34) (dk_18_0 (73, .getfield 21, 3) (List.mem_of_getElem? (i := 11) rfl)),
  List.forall_mem_cons.mpr ⟨sd_oGetI 18 76 3 0 9 RX2 TX2 10 rfl ⟨by decide, by decide⟩ rfl (by decide) rfl (fun w h => iw_18 w (uz_2 w h)) rfl (iw_18 _ zw31) (dk_18_0 (76, .getfield 9, 3) (List.mem_of_getElem? (i := 12) rfl)),
  List.forall_mem_cons.mpr ⟨sd_iret 18 79 rfl (dk_18_0 (79, .ireturn, 1) (List.mem_of_getElem? (i := 13) rfl)),
  List.forall_mem_cons.mpr ⟨sd_oLdR_n 18 80 0 0 rfl (dk_18_0 (80, .aload_n 0, 1) (List.mem_of_getElem? (i := 14) rfl)),
  List.forall_mem_cons.mpr ⟨sd_oGetR 18 81 3 5 25 RX2 TX2 10 rfl ⟨by decide, by decide⟩ rfl (by decide) rfl (fun w h => iw_18 w (uz_2 w h)) rfl (iw_18 _ zw35) (dk_18_0 (81, .getfield 25, 3) (List.mem_of_getElem? (i := 15) rfl)),
  List.forall_mem_cons.mpr ⟨sd_oGetIN 18 84 4 0 45 RX3 TX3 8 rfl ⟨by decide, by decide⟩ rfl (by decide) rfl (fun w h => iw_18 w (uz_3 w h)) rfl "Marginalia" (List.mem_of_getElem? (i := 24) rfl) (dk_18_0 (84, .getfield 45, 3) (List.mem_of_getElem? (i := 16) rfl)),
  List.forall_mem_cons.mpr ⟨sd_iret 18 87 rfl (dk_18_0 (87, .ireturn, 1) (List.mem_of_getElem? (i := 17) rfl)),
  List.forall_mem_cons.mpr ⟨sd_oLdR_n 18 88 0 0 rfl (dk_18_0 (88, .aload_n 0, 1) (List.mem_of_getElem? (i := 18) rfl)),
  List.forall_mem_cons.mpr ⟨sd_callV 18 89 15 0 1 50 3 [] (gdV hws_18 hws_15 zw41 zw27 zw28 zw29 zw25) hws_15 rfl (by decide +kernel) rfl rfl ⟨by decide +kernel, by decide +kernel, by decide +kernel⟩ ⟨by decide, by decide⟩ (catch_nil rfl) RX2 rfl TX2 10 rfl ⟨by decide, by decide⟩ (dk_18_0 (89, .invokevirtual 50, 3) (List.mem_of_getElem? (i := 19) rfl)),
  List.forall_mem_cons.mpr ⟨sd_iret 18 92 rfl (dk_18_0 (92, .ireturn, 1) (List.mem_of_getElem? (i := 20) rfl)),
  List.forall_mem_cons.mpr ⟨sd_oLdR_n 18 93 0 0 rfl (dk_18_0 (93, .aload_n 0, 1) (List.mem_of_getElem? (i := 21) rfl)),
  List.forall_mem_cons.mpr ⟨sd_oGetR 18 94 3 5 25 RX2 TX2 10 rfl ⟨by decide, by decide⟩ rfl (by decide) rfl (fun w h => iw_18 w (uz_2 w h)) rfl (iw_18 _ zw35) (dk_18_0 (94, .getfield 25, 3) (List.mem_of_getElem? (i := 22) rfl)),
  List.forall_mem_cons.mpr ⟨sd_oGetRN 18 97 4 3 54 RX3 TX3 8 rfl ⟨by decide, by decide⟩ rfl (by decide) rfl (fun w h => iw_18 w (uz_3 w h)) rfl "Marginalia" (List.mem_of_getElem? (i := 25) rfl) (dk_18_0 (97, .getfield 54, 3) (List.mem_of_getElem? (i := 23) rfl)),
  List.forall_mem_cons.mpr ⟨sd_oGetIN 18 100 1 0 58 RX0 TX0 2 rfl ⟨by decide, by decide⟩ rfl (by decide) rfl (fun w h => iw_18 w (uz_0 w h)) rfl "Marginalia" (List.mem_of_getElem? (i := 26) rfl) (dk_18_0 (100, .getfield 58, 3) (List.mem_of_getElem? (i := 24) rfl)),
  List.forall_mem_cons.mpr ⟨sd_iret 18 103 rfl (dk_18_0 (103, .ireturn, 1) (List.mem_of_getElem? (i := 25) rfl)),
  List.forall_mem_cons.mpr ⟨sd_oLdR_n 18 104 0 0 rfl (dk_18_0 (104, .aload_n 0, 1) (List.mem_of_getElem? (i := 26) rfl)),
  List.forall_mem_cons.mpr ⟨sd_oGetR 18 105 3 5 25 RX2 TX2 10 rfl ⟨by decide, by decide⟩ rfl (by decide) rfl (fun w h => iw_18 w (uz_2 w h)) rfl (iw_18 _ zw35) (dk_18_0 (105, .getfield 25, 3) (List.mem_of_getElem? (i := 27) rfl)),
  List.forall_mem_cons.mpr ⟨sd_oGetRN 18 108 4 3 54 RX3 TX3 8 rfl ⟨by decide, by decide⟩ rfl (by decide) rfl (fun w h => iw_18 w (uz_3 w h)) rfl "Marginalia" (List.mem_of_getElem? (i := 25) rfl) (dk_18_0 (108, .getfield 54, 3) (List.mem_of_getElem? (i := 28) rfl)),
  List.forall_mem_cons.mpr ⟨sd_oGetIN 18 111 1 1 63 RX0 TX0 2 rfl ⟨by decide, by decide⟩ rfl (by decide) rfl (fun w h => iw_18 w (uz_0 w h)) rfl "Marginalia" (List.mem_of_getElem? (i := 27) rfl) (dk_18_0 (111, .getfield 63, 3) (List.mem_of_getElem? (i := 29) rfl)),
  List.forall_mem_cons.mpr ⟨sd_iret 18 114 rfl (dk_18_0 (114, .ireturn, 1) (List.mem_of_getElem? (i := 30) rfl)),
  List.forall_mem_cons.mpr ⟨sd_oLdR_n 18 115 0 0 rfl (dk_18_0 (115, .aload_n 0, 1) (List.mem_of_getElem? (i := 31) rfl)),
  List.forall_mem_cons.mpr ⟨sd_oGetI 18 116 3 3 29 RX2 TX2 10 rfl ⟨by decide, by decide⟩ rfl (by decide) rfl (fun w h => iw_18 w (uz_2 w h)) rfl (iw_18 _ zw36) (dk_18_0 (116, .getfield 29, 3) (List.mem_of_getElem? (i := 32) rfl)),
  List.forall_mem_cons.mpr ⟨sd_iret 18 119 rfl (dk_18_0 (119, .ireturn, 1) (List.mem_of_getElem? (i := 33) rfl)),
  List.forall_mem_cons.mpr ⟨sd_oLdR_n 18 120 0 0 rfl (dk_18_0 (120, .aload_n 0, 1) (List.mem_of_getElem? (i := 34) rfl)),
  List.forall_mem_cons.mpr ⟨sd_oGetI 18 121 3 7 42 RX2 TX2 10 rfl ⟨by decide, by decide⟩ rfl (by decide) rfl (fun w h => iw_18 w (uz_2 w h)) rfl (iw_18 _ zw40) (dk_18_0 (121, .getfield 42, 3) (List.mem_of_getElem? (i := 35) rfl)),
  List.forall_mem_cons.mpr ⟨sd_iret 18 124 rfl (dk_18_0 (124, .ireturn, 1) (List.mem_of_getElem? (i := 36) rfl)),
  List.forall_mem_cons.mpr ⟨sd_oLdR_n 18 125 0 0 rfl (dk_18_0 (125, .aload_n 0, 1) (List.mem_of_getElem? (i := 37) rfl)),
  List.forall_mem_cons.mpr ⟨sd_oGetR 18 126 3 5 25 RX2 TX2 10 rfl ⟨by decide, by decide⟩ rfl (by decide) rfl (fun w h => iw_18 w (uz_2 w h)) rfl (iw_18 _ zw35) (dk_18_0 (126, .getfield 25, 3) (List.mem_of_getElem? (i := 38) rfl)),
  List.forall_mem_cons.mpr ⟨sd_oGetIN 18 129 4 5 66 RX3 TX3 8 rfl ⟨by decide, by decide⟩ rfl (by decide) rfl (fun w h => iw_18 w (uz_3 w h)) rfl "Marginalia" (List.mem_of_getElem? (i := 28) rfl) (dk_18_0 (129, .getfield 66, 3) (List.mem_of_getElem? (i := 39) rfl)),
  fun _ h => nomatch h⟩⟩⟩⟩⟩⟩⟩⟩⟩⟩⟩⟩⟩⟩⟩⟩⟩⟩⟩⟩⟩⟩⟩⟩⟩⟩⟩⟩⟩⟩⟩⟩⟩⟩⟩⟩⟩⟩⟩⟩
def tb_18_1 : List (Nat × Op1) := [(132, oZeq 139), (135, oCI 1 1), (136, oGoto 140), (139, oCI 0 1), (140, oRetI), (141, oLdR 0 1), (142, oGetR 3 5), (145, oGetI 4 2), (148, oRetI), (149, oLdR 0 1), (150, oGetR 3 5), (153, oGetI 4 6), (156, oRetI)]
theorem sm_18_1 : ∀ q ∈ tb_18_1, SM GwP MdP D A l 18 q.1 q.2 :=
  List.forall_mem_cons.mpr ⟨sd_if_eq 18 132 7 139 (by decide) (dk_18_1 (132, .ifCond .eq 7, 3) (List.mem_of_getElem? (i := 0) rfl)),
  List.forall_mem_cons.mpr ⟨sd_iconst 18 135 1 ⟨by decide, by decide⟩ (dk_18_1 (135, .iconst 1, 1) (List.mem_of_getElem? (i := 1) rfl)),
  List.forall_mem_cons.mpr ⟨sd_goto 18 136 4 140 (by decide) (dk_18_1 (136, .goto 4, 3) (List.mem_of_getElem? (i := 2) rfl)),
  List.forall_mem_cons.mpr ⟨sd_iconst 18 139 0 ⟨by decide, by decide⟩ (dk_18_1 (139, .iconst 0, 1) (List.mem_of_getElem? (i := 3) rfl)),
  List.forall_mem_cons.mpr ⟨sd_iret 18 140 rfl (dk_18_1 (140, .ireturn, 1) (List.mem_of_getElem? (i := 4) rfl)),
  List.forall_mem_cons.mpr ⟨sd_oLdR_n 18 141 0 0 rfl (dk_18_1 (141, .aload_n 0, 1) (List.mem_of_getElem? (i := 5) rfl)),
  List.forall_mem_cons.mpr ⟨sd_oGetR 18 142 3 5 25 RX2 TX2 10 rfl ⟨by decide, by decide⟩ rfl (by decide) rfl (fun w h => iw_18 w (uz_2 w h)) rfl (iw_18 _ zw35) (dk_18_1 (142, .getfield 25, 3) (List.mem_of_getElem? (i := 6) rfl)),
  List.forall_mem_cons.mpr ⟨sd_oGetIN 18 145 4 2 69 RX3 TX3 8 rfl ⟨by decide, by decide⟩ rfl (by decide) rfl (fun w h => iw_18 w (uz_3 w h)) rfl "Marginalia" (List.mem_of_getElem? (i := 29) rfl) (dk_18_1 (145, .getfield 69, 3) (List.mem_of_getElem? (i := 7) rfl)),
  List.forall_mem_cons.mpr ⟨sd_iret 18 148 rfl (dk_18_1 (148, .ireturn, 1) (List.mem_of_getElem? (i := 8) rfl)),
  List.forall_mem_cons.mpr ⟨sd_oLdR_n 18 149 0 0 rfl (dk_18_1 (149, .aload_n 0, 1) (List.mem_of_getElem? (i := 9) rfl)),
  List.forall_mem_cons.mpr ⟨sd_oGetR 18 150 3 5 25 RX2 TX2 10 rfl ⟨by decide, by decide⟩ rfl (by decide) rfl (fun w h => iw_18 w (uz_2 w h)) rfl (iw_18 _ zw35) (dk_18_1 (150, .getfield 25, 3) (List.mem_of_getElem? (i := 10) rfl)),
  List.forall_mem_cons.mpr ⟨sd_oGetIN 18 153 4 6 72 RX3 TX3 8 rfl ⟨by decide, by decide⟩ rfl (by decide) rfl (fun w h => iw_18 w (uz_3 w h)) rfl "Marginalia" (List.mem_of_getElem? (i := 30) rfl) (dk_18_1 (153, .getfield 72, 3) (List.mem_of_getElem? (i := 11) rfl)),
  List.forall_mem_cons.mpr ⟨sd_iret 18 156 rfl (dk_18_1 (156, .ireturn, 1) (List.mem_of_getElem? (i := 12) rfl)),
  fun _ h => nomatch h⟩⟩⟩⟩⟩⟩⟩⟩⟩⟩⟩⟩⟩
def tb_18 : List (Nat × Op1) := tb_18_0 ++ (tb_18_1)
theorem sm_18 : ∀ q ∈ tb_18, SM GwP MdP D A l 18 q.1 q.2 := List.forall_mem_append.mpr ⟨sm_18_0, sm_18_1⟩
-- 19: Marginalia$Strand.<init>(IIILMarginalia$Anchor;[I)V
def dl_19_0 : List (Nat × Instr × Nat) := [(0, .aload_n 0, 1), (1, .invokespecial 3, 3), (4, .aload_n 0, 1), (5, .iload_n 1, 1), (6, .putfield 9, 3), (9, .aload_n 0, 1), (10, .iload_n 2, 1), (11, .putfield 15, 3), (14, .aload_n 0, 1), (15, .iload_n 3, 1), (16, .putfield 18, 3), (19, .aload_n 0, 1), (20, .aload 4, 2), (22, .putfield 21, 3), (25, .aload_n 0, 1), (26, .aload 5, 2), (28, .putfield 25, 3), (31, .aload_n 0, 1), (32, .iconst (-1), 1), (33, .putfield 29, 3), (36, .return_, 1)]
theorem dk_19_0 : ∀ q ∈ dl_19_0, decode (mCod (MdP 19)) q.1 = .ok q.2 := by
  rw [show mCod (MdP 19) = cX3_init from rfl]
  decide +kernel
def tb_19_0 : List (Nat × Op1) := [(0, oLdR 0 1), (1, oObj), (4, oLdR 0 1), (5, oLdI 1 1), (6, oPutI 4 0), (9, oLdR 0 1), (10, oLdI 2 1), (11, oPutI 4 1), (14, oLdR 0 1), (15, oLdI 3 1), (16, oPutI 4 2), (19, oLdR 0 1), (20, oLdR 4 2), (22, oPutR 4 3), (25, oLdR 0 1), (26, oLdR 5 2), (28, oPutR 4 4), (31, oLdR 0 1), (32, oCI (-1) 1), (33, oPutI 4 6), (36, oRetV)]
theorem sm_19_0 : ∀ q ∈ tb_19_0, SM GwP MdP D A l 19 q.1 q.2 :=
  List.forall_mem_cons.mpr ⟨sd_oLdR_n 19 0 0 0 rfl (dk_19_0 (0, .aload_n 0, 1) (List.mem_of_getElem? (i := 0) rfl)),
  List.forall_mem_cons.mpr ⟨sd_obj 19 1 3 (iw_19 _ zw42) (iw_19 _ zw1) (iw_19 _ zw2) (by decide) (by decide) (dk_19_0 (1, .invokespecial 3, 3) (List.mem_of_getElem? (i := 1) rfl)),
  List.forall_mem_cons.mpr ⟨sd_oLdR_n 19 4 0 0 rfl (dk_19_0 (4, .aload_n 0, 1) (List.mem_of_getElem? (i := 2) rfl)),
  List.forall_mem_cons.mpr ⟨sd_oLdI_n 19 5 1 1 rfl (dk_19_0 (5, .iload_n 1, 1) (List.mem_of_getElem? (i := 3) rfl)),
  List.forall_mem_cons.mpr ⟨sd_oPutIF 19 6 4 0 9 RX3 TX3 8 rfl ⟨by decide, by decide⟩ rfl (by decide) rfl (fun w h => iw_19 w (uz_3 w h)) rfl tyX3 tyX3_ok nmX3 rfl rfl rfl rfl (iw_19 _ zw43) (dk_19_0 (6, .putfield 9, 3) (List.mem_of_getElem? (i := 4) rfl)),
  List.forall_mem_cons.mpr ⟨sd_oLdR_n 19 9 0 0 rfl (dk_19_0 (9, .aload_n 0, 1) (List.mem_of_getElem? (i := 5) rfl)),
  List.forall_mem_cons.mpr ⟨sd_oLdI_n 19 10 2 2 rfl (dk_19_0 (10, .iload_n 2, 1) (List.mem_of_getElem? (i := 6) rfl)),
  List.forall_mem_cons.mpr ⟨sd_oPutIF 19 11 4 1 15 RX3 TX3 8 rfl ⟨by decide, by decide⟩ rfl (by decide) rfl (fun w h => iw_19 w (uz_3 w h)) rfl tyX3 tyX3_ok nmX3 rfl rfl rfl rfl (iw_19 _ zw44) (dk_19_0 (11, .putfield 15, 3) (List.mem_of_getElem? (i := 7) rfl)),
  List.forall_mem_cons.mpr ⟨sd_oLdR_n 19 14 0 0 rfl (dk_19_0 (14, .aload_n 0, 1) (List.mem_of_getElem? (i := 8) rfl)),
  List.forall_mem_cons.mpr ⟨sd_oLdI_n 19 15 3 3 rfl (dk_19_0 (15, .iload_n 3, 1) (List.mem_of_getElem? (i := 9) rfl)),
  List.forall_mem_cons.mpr ⟨sd_oPutIF 19 16 4 2 18 RX3 TX3 8 rfl ⟨by decide, by decide⟩ rfl (by decide) rfl (fun w h => iw_19 w (uz_3 w h)) rfl tyX3 tyX3_ok nmX3 rfl rfl rfl rfl (iw_19 _ zw45) (dk_19_0 (16, .putfield 18, 3) (List.mem_of_getElem? (i := 10) rfl)),
  List.forall_mem_cons.mpr ⟨sd_oLdR_n 19 19 0 0 rfl (dk_19_0 (19, .aload_n 0, 1) (List.mem_of_getElem? (i := 11) rfl)),
  List.forall_mem_cons.mpr ⟨sd_oLdR 19 20 4 (dk_19_0 (20, .aload 4, 2) (List.mem_of_getElem? (i := 12) rfl)),
  List.forall_mem_cons.mpr ⟨sd_oPutRF 19 22 4 3 21 RX3 TX3 8 rfl ⟨by decide, by decide⟩ rfl (by decide) rfl (fun w h => iw_19 w (uz_3 w h)) rfl tyX3 tyX3_ok nmX3 (Or.inl ⟨_, rfl⟩) rfl rfl rfl (iw_19 _ zw46) (dk_19_0 (22, .putfield 21, 3) (List.mem_of_getElem? (i := 13) rfl)),
  List.forall_mem_cons.mpr ⟨sd_oLdR_n 19 25 0 0 rfl (dk_19_0 (25, .aload_n 0, 1) (List.mem_of_getElem? (i := 14) rfl)),
  List.forall_mem_cons.mpr ⟨sd_oLdR 19 26 5 (dk_19_0 (26, .aload 5, 2) (List.mem_of_getElem? (i := 15) rfl)),
  List.forall_mem_cons.mpr ⟨sd_oPutRF 19 28 4 4 25 RX3 TX3 8 rfl ⟨by decide, by decide⟩ rfl (by decide) rfl (fun w h => iw_19 w (uz_3 w h)) rfl tyX3 tyX3_ok nmX3 (Or.inr ⟨_, rfl⟩) rfl rfl rfl (iw_19 _ zw47) (dk_19_0 (28, .putfield 25, 3) (List.mem_of_getElem? (i := 16) rfl)),
  List.forall_mem_cons.mpr ⟨sd_oLdR_n 19 31 0 0 rfl (dk_19_0 (31, .aload_n 0, 1) (List.mem_of_getElem? (i := 17) rfl)),
  List.forall_mem_cons.mpr ⟨sd_iconst 19 32 (-1) ⟨by decide, by decide⟩ (dk_19_0 (32, .iconst (-1), 1) (List.mem_of_getElem? (i := 18) rfl)),
  List.forall_mem_cons.mpr ⟨sd_oPutI 19 33 4 6 29 RX3 TX3 8 rfl ⟨by decide, by decide⟩ rfl (by decide) rfl (fun w h => iw_19 w (uz_3 w h)) rfl tyX3 tyX3_ok nmX3 rfl rfl (iw_19 _ zw48) (dk_19_0 (33, .putfield 29, 3) (List.mem_of_getElem? (i := 19) rfl)),
  List.forall_mem_cons.mpr ⟨sd_vret 19 36 rfl (dk_19_0 (36, .return_, 1) (List.mem_of_getElem? (i := 20) rfl)),
  fun _ h => nomatch h⟩⟩⟩⟩⟩⟩⟩⟩⟩⟩⟩⟩⟩⟩⟩⟩⟩⟩⟩⟩⟩
def tb_19 : List (Nat × Op1) := tb_19_0
theorem sm_19 : ∀ q ∈ tb_19, SM GwP MdP D A l 19 q.1 q.2 := sm_19_0
-- 20: Marginalia$Strand.isSeenBy(II)Z
def dl_20_0 : List (Nat × Instr × Nat) := [(0, .iload_n 2, 1), (1, .ifCond .ne 5, 3), (4, .iconst 0, 1), (5, .ireturn, 1), (6, .aload_n 0, 1), (7, .getfield 18, 3), (10, .iconst 2, 1), (11, .if_icmp .eq 29, 3), (14, .aload_n 0, 1), (15, .getfield 18, 3), (18, .iconst 1, 1), (19, .if_icmp .ne 8, 3), (22, .iload_n 2, 1), (23, .iconst 2, 1), (24, .if_icmp .ge 16, 3), (27, .aload_n 0, 1), (28, .getfield 15, 3), (31, .iload_n 1, 1), (32, .if_icmp .eq 8, 3), (35, .iload_n 2, 1), (36, .iconst 4, 1), (37, .if_icmp .ne 7, 3), (40, .iconst 1, 1), (41, .goto 4, 3), (44, .iconst 0, 1), (45, .ireturn, 1)]
theorem dk_20_0 : ∀ q ∈ dl_20_0, decode (mCod (MdP 20)) q.1 = .ok q.2 := by
  rw [show mCod (MdP 20) = cX3_isSeenBy from rfl]
  decide +kernel
def tb_20_0 : List (Nat × Op1) := [(0, oLdI 2 1), (1, oZne 6), (4, oCI 0 1), (5, oRetZ), (6, oLdR 0 1), (7, oGetI 4 2), (10, oCI 2 1), (11, oCeq 40), (14, oLdR 0 1), (15, oGetI 4 2), (18, oCI 1 1), (19, oCne 27), (22, oLdI 2 1), (23, oCI 2 1), (24, oCge 40), (27, oLdR 0 1), (28, oGetI 4 1), (31, oLdI 1 1), (32, oCeq 40), (35, oLdI 2 1), (36, oCI 4 1), (37, oCne 44), (40, oCI 1 1), (41, oGoto 45), (44, oCI 0 1), (45, oRetZ)]
theorem sm_20_0 : ∀ q ∈ tb_20_0, SM GwP MdP D A l 20 q.1 q.2 :=
  List.forall_mem_cons.mpr ⟨sd_oLdI_n 20 0 2 2 rfl (dk_20_0 (0, .iload_n 2, 1) (List.mem_of_getElem? (i := 0) rfl)),
  List.forall_mem_cons.mpr ⟨sd_if_ne 20 1 5 6 (by decide) (dk_20_0 (1, .ifCond .ne 5, 3) (List.mem_of_getElem? (i := 1) rfl)),
  List.forall_mem_cons.mpr ⟨sd_iconst 20 4 0 ⟨by decide, by decide⟩ (dk_20_0 (4, .iconst 0, 1) (List.mem_of_getElem? (i := 2) rfl)),
  List.forall_mem_cons.mpr ⟨sd_zret 20 5 rfl (dk_20_0 (5, .ireturn, 1) (List.mem_of_getElem? (i := 3) rfl)),
  List.forall_mem_cons.mpr ⟨sd_oLdR_n 20 6 0 0 rfl (dk_20_0 (6, .aload_n 0, 1) (List.mem_of_getElem? (i := 4) rfl)),
  List.forall_mem_cons.mpr ⟨sd_oGetI 20 7 4 2 18 RX3 TX3 8 rfl ⟨by decide, by decide⟩ rfl (by decide) rfl (fun w h => iw_20 w (uz_3 w h)) rfl (iw_20 _ zw45) (dk_20_0 (7, .getfield 18, 3) (List.mem_of_getElem? (i := 5) rfl)),
  List.forall_mem_cons.mpr ⟨sd_iconst 20 10 2 ⟨by decide, by decide⟩ (dk_20_0 (10, .iconst 2, 1) (List.mem_of_getElem? (i := 6) rfl)),
  List.forall_mem_cons.mpr ⟨sd_icmp_eq 20 11 29 40 (by decide) (dk_20_0 (11, .if_icmp .eq 29, 3) (List.mem_of_getElem? (i := 7) rfl)),
  List.forall_mem_cons.mpr ⟨sd_oLdR_n 20 14 0 0 rfl (dk_20_0 (14, .aload_n 0, 1) (List.mem_of_getElem? (i := 8) rfl)),
  List.forall_mem_cons.mpr ⟨sd_oGetI 20 15 4 2 18 RX3 TX3 8 rfl ⟨by decide, by decide⟩ rfl (by decide) rfl (fun w h => iw_20 w (uz_3 w h)) rfl (iw_20 _ zw45) (dk_20_0 (15, .getfield 18, 3) (List.mem_of_getElem? (i := 9) rfl)),
  List.forall_mem_cons.mpr ⟨sd_iconst 20 18 1 ⟨by decide, by decide⟩ (dk_20_0 (18, .iconst 1, 1) (List.mem_of_getElem? (i := 10) rfl)),
  List.forall_mem_cons.mpr ⟨sd_icmp_ne 20 19 8 27 (by decide) (dk_20_0 (19, .if_icmp .ne 8, 3) (List.mem_of_getElem? (i := 11) rfl)),
  List.forall_mem_cons.mpr ⟨sd_oLdI_n 20 22 2 2 rfl (dk_20_0 (22, .iload_n 2, 1) (List.mem_of_getElem? (i := 12) rfl)),
  List.forall_mem_cons.mpr ⟨sd_iconst 20 23 2 ⟨by decide, by decide⟩ (dk_20_0 (23, .iconst 2, 1) (List.mem_of_getElem? (i := 13) rfl)),
  List.forall_mem_cons.mpr ⟨sd_icmp_ge 20 24 16 40 (by decide) (dk_20_0 (24, .if_icmp .ge 16, 3) (List.mem_of_getElem? (i := 14) rfl)),
  List.forall_mem_cons.mpr ⟨sd_oLdR_n 20 27 0 0 rfl (dk_20_0 (27, .aload_n 0, 1) (List.mem_of_getElem? (i := 15) rfl)),
  List.forall_mem_cons.mpr ⟨sd_oGetI 20 28 4 1 15 RX3 TX3 8 rfl ⟨by decide, by decide⟩ rfl (by decide) rfl (fun w h => iw_20 w (uz_3 w h)) rfl (iw_20 _ zw44) (dk_20_0 (28, .getfield 15, 3) (List.mem_of_getElem? (i := 16) rfl)),
  List.forall_mem_cons.mpr ⟨sd_oLdI_n 20 31 1 1 rfl (dk_20_0 (31, .iload_n 1, 1) (List.mem_of_getElem? (i := 17) rfl)),
  List.forall_mem_cons.mpr ⟨sd_icmp_eq 20 32 8 40 (by decide) (dk_20_0 (32, .if_icmp .eq 8, 3) (List.mem_of_getElem? (i := 18) rfl)),
  List.forall_mem_cons.mpr ⟨sd_oLdI_n 20 35 2 2 rfl (dk_20_0 (35, .iload_n 2, 1) (List.mem_of_getElem? (i := 19) rfl)),
  List.forall_mem_cons.mpr ⟨sd_iconst 20 36 4 ⟨by decide, by decide⟩ (dk_20_0 (36, .iconst 4, 1) (List.mem_of_getElem? (i := 20) rfl)),
  List.forall_mem_cons.mpr ⟨sd_icmp_ne 20 37 7 44 (by decide) (dk_20_0 (37, .if_icmp .ne 7, 3) (List.mem_of_getElem? (i := 21) rfl)),
  List.forall_mem_cons.mpr ⟨sd_iconst 20 40 1 ⟨by decide, by decide⟩ (dk_20_0 (40, .iconst 1, 1) (List.mem_of_getElem? (i := 22) rfl)),
  List.forall_mem_cons.mpr ⟨sd_goto 20 41 4 45 (by decide) (dk_20_0 (41, .goto 4, 3) (List.mem_of_getElem? (i := 23) rfl)),
  List.forall_mem_cons.mpr ⟨sd_iconst 20 44 0 ⟨by decide, by decide⟩ (dk_20_0 (44, .iconst 0, 1) (List.mem_of_getElem? (i := 24) rfl)),
  List.forall_mem_cons.mpr ⟨sd_zret 20 45 rfl (dk_20_0 (45, .ireturn, 1) (List.mem_of_getElem? (i := 25) rfl)),
  fun _ h => nomatch h⟩⟩⟩⟩⟩⟩⟩⟩⟩⟩⟩⟩⟩⟩⟩⟩⟩⟩⟩⟩⟩⟩⟩⟩⟩⟩
def tb_20 : List (Nat × Op1) := tb_20_0
theorem sm_20 : ∀ q ∈ tb_20, SM GwP MdP D A l 20 q.1 q.2 := sm_20_0
-- 21: Marginalia$Strand.isCountedAs(I)Z
def dl_21_0 : List (Nat × Instr × Nat) := [(0, .iload_n 1, 1), (1, .iconst 2, 1), (2, .if_icmp .eq 30, 3), (5, .iload_n 1, 1), (6, .iconst 3, 1), (7, .if_icmp .ne 10, 3), (10, .aload_n 0, 1), (11, .getfield 32, 3), (14, .ifCond .eq 18, 3), (17, .iload_n 1, 1), (18, .iconst 4, 1), (19, .if_icmp .ne 17, 3), (22, .aload_n 0, 1), (23, .getfield 21, 3), (26, .invokevirtual 36, 3), (29, .ifCond .eq 7, 3), (32, .iconst 1, 1), (33, .goto 4, 3), (36, .iconst 0, 1), (37, .ireturn, 1)]
theorem dk_21_0 : ∀ q ∈ dl_21_0, decode (mCod (MdP 21)) q.1 = .ok q.2 := by
  rw [show mCod (MdP 21) = cX3_isCountedAs from rfl]
  decide +kernel
def tb_21_0 : List (Nat × Op1) := [(0, oLdI 1 1), (1, oCI 2 1), (2, oCeq 32), (5, oLdI 1 1), (6, oCI 3 1), (7, oCne 17), (10, oLdR 0 1), (11, oGetI 4 5), (14, oZeq 32), (17, oLdI 1 1), (18, oCI 4 1), (19, oCne 36), (22, oLdR 0 1), (23, oGetR 4 3), (26, oCallV 3 0 1 1 []), (29, oZeq 36), (32, oCI 1 1), (33, oGoto 37), (36, oCI 0 1), (37, oRetZ)]
theorem sm_21_0 : ∀ q ∈ tb_21_0, SM GwP MdP D A l 21 q.1 q.2 :=
  List.forall_mem_cons.mpr ⟨sd_oLdI_n 21 0 1 1 rfl (dk_21_0 (0, .iload_n 1, 1) (List.mem_of_getElem? (i := 0) rfl)),
  List.forall_mem_cons.mpr ⟨sd_iconst 21 1 2 ⟨by decide, by decide⟩ (dk_21_0 (1, .iconst 2, 1) (List.mem_of_getElem? (i := 1) rfl)),
  List.forall_mem_cons.mpr ⟨sd_icmp_eq 21 2 30 32 (by decide) (dk_21_0 (2, .if_icmp .eq 30, 3) (List.mem_of_getElem? (i := 2) rfl)),
  List.forall_mem_cons.mpr ⟨sd_oLdI_n 21 5 1 1 rfl (dk_21_0 (5, .iload_n 1, 1) (List.mem_of_getElem? (i := 3) rfl)),
  List.forall_mem_cons.mpr ⟨sd_iconst 21 6 3 ⟨by decide, by decide⟩ (dk_21_0 (6, .iconst 3, 1) (List.mem_of_getElem? (i := 4) rfl)),
  List.forall_mem_cons.mpr ⟨sd_icmp_ne 21 7 10 17 (by decide) (dk_21_0 (7, .if_icmp .ne 10, 3) (List.mem_of_getElem? (i := 5) rfl)),
  List.forall_mem_cons.mpr ⟨sd_oLdR_n 21 10 0 0 rfl (dk_21_0 (10, .aload_n 0, 1) (List.mem_of_getElem? (i := 6) rfl)),
  List.forall_mem_cons.mpr ⟨sd_oGetI 21 11 4 5 32 RX3 TX3 8 rfl ⟨by decide, by decide⟩ rfl (by decide) rfl (fun w h => iw_21 w (uz_3 w h)) rfl (iw_21 _ zw49) (dk_21_0 (11, .getfield 32, 3) (List.mem_of_getElem? (i := 7) rfl)),
  List.forall_mem_cons.mpr ⟨sd_if_eq 21 14 18 32 (by decide) (dk_21_0 (14, .ifCond .eq 18, 3) (List.mem_of_getElem? (i := 8) rfl)),
  List.forall_mem_cons.mpr ⟨sd_oLdI_n 21 17 1 1 rfl (dk_21_0 (17, .iload_n 1, 1) (List.mem_of_getElem? (i := 9) rfl)),
  List.forall_mem_cons.mpr ⟨sd_iconst 21 18 4 ⟨by decide, by decide⟩ (dk_21_0 (18, .iconst 4, 1) (List.mem_of_getElem? (i := 10) rfl)),
  List.forall_mem_cons.mpr ⟨sd_icmp_ne 21 19 17 36 (by decide) (dk_21_0 (19, .if_icmp .ne 17, 3) (List.mem_of_getElem? (i := 11) rfl)),
  List.forall_mem_cons.mpr ⟨sd_oLdR_n 21 22 0 0 rfl (dk_21_0 (22, .aload_n 0, 1) (List.mem_of_getElem? (i := 12) rfl)),
  List.forall_mem_cons.mpr ⟨sd_oGetR 21 23 4 3 21 RX3 TX3 8 rfl ⟨by decide, by decide⟩ rfl (by decide) rfl (fun w h => iw_21 w (uz_3 w h)) rfl (iw_21 _ zw46) (dk_21_0 (23, .getfield 21, 3) (List.mem_of_getElem? (i := 13) rfl)),
  List.forall_mem_cons.mpr ⟨sd_callV 21 26 3 0 1 36 1 [] (gdV hws_21 hws_3 zw50 zw7 zw8 zw9 zw5) hws_3 rfl (by decide +kernel) rfl rfl ⟨by decide +kernel, by decide +kernel, by decide +kernel⟩ ⟨by decide, by decide⟩ (catch_nil rfl) RX0 rfl TX0 2 rfl ⟨by decide, by decide⟩ (dk_21_0 (26, .invokevirtual 36, 3) (List.mem_of_getElem? (i := 14) rfl)),
  List.forall_mem_cons.mpr ⟨sd_if_eq 21 29 7 36 (by decide) (dk_21_0 (29, .ifCond .eq 7, 3) (List.mem_of_getElem? (i := 15) rfl)),
  List.forall_mem_cons.mpr ⟨sd_iconst 21 32 1 ⟨by decide, by decide⟩ (dk_21_0 (32, .iconst 1, 1) (List.mem_of_getElem? (i := 16) rfl)),
  List.forall_mem_cons.mpr ⟨sd_goto 21 33 4 37 (by decide) (dk_21_0 (33, .goto 4, 3) (List.mem_of_getElem? (i := 17) rfl)),
  List.forall_mem_cons.mpr ⟨sd_iconst 21 36 0 ⟨by decide, by decide⟩ (dk_21_0 (36, .iconst 0, 1) (List.mem_of_getElem? (i := 18) rfl)),
  List.forall_mem_cons.mpr ⟨sd_zret 21 37 rfl (dk_21_0 (37, .ireturn, 1) (List.mem_of_getElem? (i := 19) rfl)),
  fun _ h => nomatch h⟩⟩⟩⟩⟩⟩⟩⟩⟩⟩⟩⟩⟩⟩⟩⟩⟩⟩⟩⟩
def tb_21 : List (Nat × Op1) := tb_21_0
theorem sm_21 : ∀ q ∈ tb_21, SM GwP MdP D A l 21 q.1 q.2 := sm_21_0
-- 22: Marginalia$Text.<init>()V
def dl_22_0 : List (Nat × Instr × Nat) := [(0, .aload_n 0, 1), (1, .invokespecial 3, 3), (4, .aload_n 0, 1), (5, .bipush 61, 2), (7, .sipush 200, 3), (10, .multianewarray 9 2, 4), (14, .putfield 11, 3), (17, .aload_n 0, 1), (18, .bipush 61, 2), (20, .newarray .int, 2), (22, .putfield 16, 3), (25, .aload_n 0, 1), (26, .sipush 2400, 3), (29, .newarray .int, 2), (31, .putfield 20, 3), (34, .return_, 1)]
theorem dk_22_0 : ∀ q ∈ dl_22_0, decode (mCod (MdP 22)) q.1 = .ok q.2 := by
  rw [show mCod (MdP 22) = cX4_init from rfl]
  decide +kernel
def tb_22_0 : List (Nat × Op1) := [(0, oLdR 0 1), (1, oObj), (4, oLdR 0 1), (5, oCI 61 2), (7, oCI 200 3), (10, oNew2), (14, oPutR 5 0), (17, oLdR 0 1), (18, oCI 61 2), (20, oNewA 10 2), (22, oPutR 5 1), (25, oLdR 0 1), (26, oCI 2400 3), (29, oNewA 10 2), (31, oPutR 5 2), (34, oRetV)]
theorem sm_22_0 : ∀ q ∈ tb_22_0, SM GwP MdP D A l 22 q.1 q.2 :=
  List.forall_mem_cons.mpr ⟨sd_oLdR_n 22 0 0 0 rfl (dk_22_0 (0, .aload_n 0, 1) (List.mem_of_getElem? (i := 0) rfl)),
  List.forall_mem_cons.mpr ⟨sd_obj 22 1 3 (iw_22 _ zw51) (iw_22 _ zw1) (iw_22 _ zw2) (by decide) (by decide) (dk_22_0 (1, .invokespecial 3, 3) (List.mem_of_getElem? (i := 1) rfl)),
  List.forall_mem_cons.mpr ⟨sd_oLdR_n 22 4 0 0 rfl (dk_22_0 (4, .aload_n 0, 1) (List.mem_of_getElem? (i := 2) rfl)),
  List.forall_mem_cons.mpr ⟨sd_bipush 22 5 61 ⟨by decide, by decide⟩ (by decide) (dk_22_0 (5, .bipush 61, 2) (List.mem_of_getElem? (i := 3) rfl)),
  List.forall_mem_cons.mpr ⟨sd_sipush 22 7 200 ⟨by decide, by decide⟩ (by decide) (dk_22_0 (7, .sipush 200, 3) (List.mem_of_getElem? (i := 4) rfl)),
  List.forall_mem_cons.mpr ⟨sd_new2 22 10 9 (iw_22 _ zw52) (iw_22 _ zw22) (dk_22_0 (10, .multianewarray 9 2, 4) (List.mem_of_getElem? (i := 5) rfl)),
  List.forall_mem_cons.mpr ⟨sd_oPutRF 22 14 5 0 11 RX4 TX4 5 rfl ⟨by decide, by decide⟩ rfl (by decide) rfl (fun w h => iw_22 w (uz_4 w h)) rfl tyX4 tyX4_ok nmX4 (Or.inr ⟨_, rfl⟩) rfl rfl rfl (iw_22 _ zw53) (dk_22_0 (14, .putfield 11, 3) (List.mem_of_getElem? (i := 6) rfl)),
  List.forall_mem_cons.mpr ⟨sd_oLdR_n 22 17 0 0 rfl (dk_22_0 (17, .aload_n 0, 1) (List.mem_of_getElem? (i := 7) rfl)),
  List.forall_mem_cons.mpr ⟨sd_bipush 22 18 61 ⟨by decide, by decide⟩ (by decide) (dk_22_0 (18, .bipush 61, 2) (List.mem_of_getElem? (i := 8) rfl)),
  List.forall_mem_cons.mpr ⟨sd_newA 22 20 10 .int (Or.inl ⟨rfl, rfl⟩) (iw_22 _ zw22) (dk_22_0 (20, .newarray .int, 2) (List.mem_of_getElem? (i := 9) rfl)),
  List.forall_mem_cons.mpr ⟨sd_oPutRF 22 22 5 1 16 RX4 TX4 5 rfl ⟨by decide, by decide⟩ rfl (by decide) rfl (fun w h => iw_22 w (uz_4 w h)) rfl tyX4 tyX4_ok nmX4 (Or.inr ⟨_, rfl⟩) rfl rfl rfl (iw_22 _ zw54) (dk_22_0 (22, .putfield 16, 3) (List.mem_of_getElem? (i := 10) rfl)),
  List.forall_mem_cons.mpr ⟨sd_oLdR_n 22 25 0 0 rfl (dk_22_0 (25, .aload_n 0, 1) (List.mem_of_getElem? (i := 11) rfl)),
  List.forall_mem_cons.mpr ⟨sd_sipush 22 26 2400 ⟨by decide, by decide⟩ (by decide) (dk_22_0 (26, .sipush 2400, 3) (List.mem_of_getElem? (i := 12) rfl)),
  List.forall_mem_cons.mpr ⟨sd_newA 22 29 10 .int (Or.inl ⟨rfl, rfl⟩) (iw_22 _ zw22) (dk_22_0 (29, .newarray .int, 2) (List.mem_of_getElem? (i := 13) rfl)),
  List.forall_mem_cons.mpr ⟨sd_oPutRF 22 31 5 2 20 RX4 TX4 5 rfl ⟨by decide, by decide⟩ rfl (by decide) rfl (fun w h => iw_22 w (uz_4 w h)) rfl tyX4 tyX4_ok nmX4 (Or.inr ⟨_, rfl⟩) rfl rfl rfl (iw_22 _ zw55) (dk_22_0 (31, .putfield 20, 3) (List.mem_of_getElem? (i := 14) rfl)),
  List.forall_mem_cons.mpr ⟨sd_vret 22 34 rfl (dk_22_0 (34, .return_, 1) (List.mem_of_getElem? (i := 15) rfl)),
  fun _ h => nomatch h⟩⟩⟩⟩⟩⟩⟩⟩⟩⟩⟩⟩⟩⟩⟩⟩
def tb_22 : List (Nat × Op1) := tb_22_0
theorem sm_22 : ∀ q ∈ tb_22, SM GwP MdP D A l 22 q.1 q.2 := sm_22_0
-- 23: Marginalia$Text.size()I
def dl_23_0 : List (Nat × Instr × Nat) := [(0, .aload_n 0, 1), (1, .getfield 16, 3), (4, .aload_n 0, 1), (5, .getfield 23, 3), (8, .iaload, 1), (9, .ireturn, 1)]
theorem dk_23_0 : ∀ q ∈ dl_23_0, decode (mCod (MdP 23)) q.1 = .ok q.2 := by
  rw [show mCod (MdP 23) = cX4_size from rfl]
  decide +kernel
def tb_23_0 : List (Nat × Op1) := [(0, oLdR 0 1), (1, oGetR 5 1), (4, oLdR 0 1), (5, oGetI 5 4), (8, oALdI 10), (9, oRetI)]
theorem sm_23_0 : ∀ q ∈ tb_23_0, SM GwP MdP D A l 23 q.1 q.2 :=
  List.forall_mem_cons.mpr ⟨sd_oLdR_n 23 0 0 0 rfl (dk_23_0 (0, .aload_n 0, 1) (List.mem_of_getElem? (i := 0) rfl)),
  List.forall_mem_cons.mpr ⟨sd_oGetR 23 1 5 1 16 RX4 TX4 5 rfl ⟨by decide, by decide⟩ rfl (by decide) rfl (fun w h => iw_23 w (uz_4 w h)) rfl (iw_23 _ zw54) (dk_23_0 (1, .getfield 16, 3) (List.mem_of_getElem? (i := 1) rfl)),
  List.forall_mem_cons.mpr ⟨sd_oLdR_n 23 4 0 0 rfl (dk_23_0 (4, .aload_n 0, 1) (List.mem_of_getElem? (i := 2) rfl)),
  List.forall_mem_cons.mpr ⟨sd_oGetI 23 5 5 4 23 RX4 TX4 5 rfl ⟨by decide, by decide⟩ rfl (by decide) rfl (fun w h => iw_23 w (uz_4 w h)) rfl (iw_23 _ zw56) (dk_23_0 (5, .getfield 23, 3) (List.mem_of_getElem? (i := 3) rfl)),
  List.forall_mem_cons.mpr ⟨sd_iald 23 8 (dk_23_0 (8, .iaload, 1) (List.mem_of_getElem? (i := 4) rfl)),
  List.forall_mem_cons.mpr ⟨sd_iret 23 9 rfl (dk_23_0 (9, .ireturn, 1) (List.mem_of_getElem? (i := 5) rfl)),
  fun _ h => nomatch h⟩⟩⟩⟩⟩⟩
def tb_23 : List (Nat × Op1) := tb_23_0
theorem sm_23 : ∀ q ∈ tb_23, SM GwP MdP D A l 23 q.1 q.2 := sm_23_0
-- 24: Marginalia$Text.hasRoomFor(II)Z
def dl_24_0 : List (Nat × Instr × Nat) := [(0, .aload_n 0, 1), (1, .invokevirtual 27, 3), (4, .iload_n 1, 1), (5, .iadd, 1), (6, .sipush 200, 3), (9, .if_icmp .gt 18, 3), (12, .aload_n 0, 1), (13, .getfield 23, 3), (16, .iload_n 2, 1), (17, .iadd, 1), (18, .bipush 60, 2), (20, .if_icmp .gt 7, 3), (23, .iconst 1, 1), (24, .goto 4, 3), (27, .iconst 0, 1), (28, .ireturn, 1)]
theorem dk_24_0 : ∀ q ∈ dl_24_0, decode (mCod (MdP 24)) q.1 = .ok q.2 := by
  rw [show mCod (MdP 24) = cX4_hasRoomFor from rfl]
  decide +kernel
def tb_24_0 : List (Nat × Op1) := [(0, oLdR 0 1), (1, oCallV 23 0 1 5 []), (4, oLdI 1 1), (5, oAdd), (6, oCI 200 3), (9, oCgt 27), (12, oLdR 0 1), (13, oGetI 5 4), (16, oLdI 2 1), (17, oAdd), (18, oCI 60 2), (20, oCgt 27), (23, oCI 1 1), (24, oGoto 28), (27, oCI 0 1), (28, oRetZ)]
theorem sm_24_0 : ∀ q ∈ tb_24_0, SM GwP MdP D A l 24 q.1 q.2 :=
  List.forall_mem_cons.mpr ⟨sd_oLdR_n 24 0 0 0 rfl (dk_24_0 (0, .aload_n 0, 1) (List.mem_of_getElem? (i := 0) rfl)),
  List.forall_mem_cons.mpr ⟨sd_callV 24 1 23 0 1 27 5 [] (gdV hws_24 hws_23 zw58 zw59 zw60 zw61 zw57) hws_23 rfl (by decide +kernel) rfl rfl ⟨by decide +kernel, by decide +kernel, by decide +kernel⟩ ⟨by decide, by decide⟩ (catch_nil rfl) RX4 rfl TX4 5 rfl ⟨by decide, by decide⟩ (dk_24_0 (1, .invokevirtual 27, 3) (List.mem_of_getElem? (i := 1) rfl)),
  List.forall_mem_cons.mpr ⟨sd_oLdI_n 24 4 1 1 rfl (dk_24_0 (4, .iload_n 1, 1) (List.mem_of_getElem? (i := 2) rfl)),
  List.forall_mem_cons.mpr ⟨sd_iadd 24 5 (dk_24_0 (5, .iadd, 1) (List.mem_of_getElem? (i := 3) rfl)),
  List.forall_mem_cons.mpr ⟨sd_sipush 24 6 200 ⟨by decide, by decide⟩ (by decide) (dk_24_0 (6, .sipush 200, 3) (List.mem_of_getElem? (i := 4) rfl)),
  List.forall_mem_cons.mpr ⟨sd_icmp_gt 24 9 18 27 (by decide) (dk_24_0 (9, .if_icmp .gt 18, 3) (List.mem_of_getElem? (i := 5) rfl)),
  List.forall_mem_cons.mpr ⟨sd_oLdR_n 24 12 0 0 rfl (dk_24_0 (12, .aload_n 0, 1) (List.mem_of_getElem? (i := 6) rfl)),
  List.forall_mem_cons.mpr ⟨sd_oGetI 24 13 5 4 23 RX4 TX4 5 rfl ⟨by decide, by decide⟩ rfl (by decide) rfl (fun w h => iw_24 w (uz_4 w h)) rfl (iw_24 _ zw56) (dk_24_0 (13, .getfield 23, 3) (List.mem_of_getElem? (i := 7) rfl)),
  List.forall_mem_cons.mpr ⟨sd_oLdI_n 24 16 2 2 rfl (dk_24_0 (16, .iload_n 2, 1) (List.mem_of_getElem? (i := 8) rfl)),
  List.forall_mem_cons.mpr ⟨sd_iadd 24 17 (dk_24_0 (17, .iadd, 1) (List.mem_of_getElem? (i := 9) rfl)),
  List.forall_mem_cons.mpr ⟨sd_bipush 24 18 60 ⟨by decide, by decide⟩ (by decide) (dk_24_0 (18, .bipush 60, 2) (List.mem_of_getElem? (i := 10) rfl)),
  List.forall_mem_cons.mpr ⟨sd_icmp_gt 24 20 7 27 (by decide) (dk_24_0 (20, .if_icmp .gt 7, 3) (List.mem_of_getElem? (i := 11) rfl)),
  List.forall_mem_cons.mpr ⟨sd_iconst 24 23 1 ⟨by decide, by decide⟩ (dk_24_0 (23, .iconst 1, 1) (List.mem_of_getElem? (i := 12) rfl)),
  List.forall_mem_cons.mpr ⟨sd_goto 24 24 4 28 (by decide) (dk_24_0 (24, .goto 4, 3) (List.mem_of_getElem? (i := 13) rfl)),
  List.forall_mem_cons.mpr ⟨sd_iconst 24 27 0 ⟨by decide, by decide⟩ (dk_24_0 (27, .iconst 0, 1) (List.mem_of_getElem? (i := 14) rfl)),
  List.forall_mem_cons.mpr ⟨sd_zret 24 28 rfl (dk_24_0 (28, .ireturn, 1) (List.mem_of_getElem? (i := 15) rfl)),
  fun _ h => nomatch h⟩⟩⟩⟩⟩⟩⟩⟩⟩⟩⟩⟩⟩⟩⟩⟩
def tb_24 : List (Nat × Op1) := tb_24_0
theorem sm_24 : ∀ q ∈ tb_24, SM GwP MdP D A l 24 q.1 q.2 := sm_24_0
-- 25: Marginalia$Text.hasVersion(I)Z
def dl_25_0 : List (Nat × Instr × Nat) := [(0, .iload_n 1, 1), (1, .iconst 0, 1), (2, .aload_n 0, 1), (3, .getfield 23, 3), (6, .invokestatic 31, 3), (9, .ireturn, 1)]
theorem dk_25_0 : ∀ q ∈ dl_25_0, decode (mCod (MdP 25)) q.1 = .ok q.2 := by
  rw [show mCod (MdP 25) = cX4_hasVersion from rfl]
  decide +kernel
def tb_25_0 : List (Nat × Op1) := [(0, oLdI 1 1), (1, oCI 0 1), (2, oLdR 0 1), (3, oGetI 5 4), (6, oCallS 67 3 3 []), (9, oRetZ)]
theorem sm_25_0 : ∀ q ∈ tb_25_0, SM GwP MdP D A l 25 q.1 q.2 :=
  List.forall_mem_cons.mpr ⟨sd_oLdI_n 25 0 1 1 rfl (dk_25_0 (0, .iload_n 1, 1) (List.mem_of_getElem? (i := 0) rfl)),
  List.forall_mem_cons.mpr ⟨sd_iconst 25 1 0 ⟨by decide, by decide⟩ (dk_25_0 (1, .iconst 0, 1) (List.mem_of_getElem? (i := 1) rfl)),
  List.forall_mem_cons.mpr ⟨sd_oLdR_n 25 2 0 0 rfl (dk_25_0 (2, .aload_n 0, 1) (List.mem_of_getElem? (i := 2) rfl)),
  List.forall_mem_cons.mpr ⟨sd_oGetI 25 3 5 4 23 RX4 TX4 5 rfl ⟨by decide, by decide⟩ rfl (by decide) rfl (fun w h => iw_25 w (uz_4 w h)) rfl (iw_25 _ zw56) (dk_25_0 (3, .getfield 23, 3) (List.mem_of_getElem? (i := 3) rfl)),
  List.forall_mem_cons.mpr ⟨sd_callSN 25 6 67 3 3 31 [] (gdI hws_25 hws_67 zw62) "Marginalia" (List.mem_of_getElem? (i := 0) rfl) (iw_25 _ zw63) (iw_25 _ zw64) hws_67 rfl (by decide +kernel) rfl rfl ⟨by decide +kernel, by decide +kernel, by decide +kernel⟩ ⟨by decide, by decide⟩ (catch_nil rfl) (dk_25_0 (6, .invokestatic 31, 3) (List.mem_of_getElem? (i := 4) rfl)),
  List.forall_mem_cons.mpr ⟨sd_zret 25 9 rfl (dk_25_0 (9, .ireturn, 1) (List.mem_of_getElem? (i := 5) rfl)),
  fun _ h => nomatch h⟩⟩⟩⟩⟩⟩
def tb_25 : List (Nat × Op1) := tb_25_0
theorem sm_25 : ∀ q ∈ tb_25, SM GwP MdP D A l 25 q.1 q.2 := sm_25_0
-- 26: Marginalia$Text.hasSignIn(II)Z
def dl_26_0 : List (Nat × Instr × Nat) := [(0, .iload_n 2, 1), (1, .iconst 0, 1), (2, .aload_n 0, 1), (3, .getfield 16, 3), (6, .iload_n 1, 1), (7, .iaload, 1), (8, .iconst 1, 1), (9, .isub, 1), (10, .invokestatic 31, 3), (13, .ireturn, 1)]
theorem dk_26_0 : ∀ q ∈ dl_26_0, decode (mCod (MdP 26)) q.1 = .ok q.2 := by
  rw [show mCod (MdP 26) = cX4_hasSignIn from rfl]
  decide +kernel
def tb_26_0 : List (Nat × Op1) := [(0, oLdI 2 1), (1, oCI 0 1), (2, oLdR 0 1), (3, oGetR 5 1), (6, oLdI 1 1), (7, oALdI 10), (8, oCI 1 1), (9, oSub), (10, oCallS 67 3 3 []), (13, oRetZ)]
theorem sm_26_0 : ∀ q ∈ tb_26_0, SM GwP MdP D A l 26 q.1 q.2 :=
  List.forall_mem_cons.mpr ⟨sd_oLdI_n 26 0 2 2 rfl (dk_26_0 (0, .iload_n 2, 1) (List.mem_of_getElem? (i := 0) rfl)),
  List.forall_mem_cons.mpr ⟨sd_iconst 26 1 0 ⟨by decide, by decide⟩ (dk_26_0 (1, .iconst 0, 1) (List.mem_of_getElem? (i := 1) rfl)),
  List.forall_mem_cons.mpr ⟨sd_oLdR_n 26 2 0 0 rfl (dk_26_0 (2, .aload_n 0, 1) (List.mem_of_getElem? (i := 2) rfl)),
  List.forall_mem_cons.mpr ⟨sd_oGetR 26 3 5 1 16 RX4 TX4 5 rfl ⟨by decide, by decide⟩ rfl (by decide) rfl (fun w h => iw_26 w (uz_4 w h)) rfl (iw_26 _ zw54) (dk_26_0 (3, .getfield 16, 3) (List.mem_of_getElem? (i := 3) rfl)),
  List.forall_mem_cons.mpr ⟨sd_oLdI_n 26 6 1 1 rfl (dk_26_0 (6, .iload_n 1, 1) (List.mem_of_getElem? (i := 4) rfl)),
  List.forall_mem_cons.mpr ⟨sd_iald 26 7 (dk_26_0 (7, .iaload, 1) (List.mem_of_getElem? (i := 5) rfl)),
  List.forall_mem_cons.mpr ⟨sd_iconst 26 8 1 ⟨by decide, by decide⟩ (dk_26_0 (8, .iconst 1, 1) (List.mem_of_getElem? (i := 6) rfl)),
  List.forall_mem_cons.mpr ⟨sd_isub 26 9 (dk_26_0 (9, .isub, 1) (List.mem_of_getElem? (i := 7) rfl)),
  List.forall_mem_cons.mpr ⟨sd_callSN 26 10 67 3 3 31 [] (gdI hws_26 hws_67 zw62) "Marginalia" (List.mem_of_getElem? (i := 0) rfl) (iw_26 _ zw63) (iw_26 _ zw64) hws_67 rfl (by decide +kernel) rfl rfl ⟨by decide +kernel, by decide +kernel, by decide +kernel⟩ ⟨by decide, by decide⟩ (catch_nil rfl) (dk_26_0 (10, .invokestatic 31, 3) (List.mem_of_getElem? (i := 8) rfl)),
  List.forall_mem_cons.mpr ⟨sd_zret 26 13 rfl (dk_26_0 (13, .ireturn, 1) (List.mem_of_getElem? (i := 9) rfl)),
  fun _ h => nomatch h⟩⟩⟩⟩⟩⟩⟩⟩⟩⟩
def tb_26 : List (Nat × Op1) := tb_26_0
theorem sm_26 : ∀ q ∈ tb_26, SM GwP MdP D A l 26 q.1 q.2 := sm_26_0
-- 27: Marginalia$Text.signIn(II)I
def dl_27_0 : List (Nat × Instr × Nat) := [(0, .aload_n 0, 1), (1, .getfield 20, 3), (4, .aload_n 0, 1), (5, .getfield 11, 3), (8, .iload_n 1, 1), (9, .aaload, 1), (10, .iload_n 2, 1), (11, .iaload, 1), (12, .iaload, 1), (13, .ireturn, 1)]
theorem dk_27_0 : ∀ q ∈ dl_27_0, decode (mCod (MdP 27)) q.1 = .ok q.2 := by
  rw [show mCod (MdP 27) = cX4_signIn from rfl]
  decide +kernel
def tb_27_0 : List (Nat × Op1) := [(0, oLdR 0 1), (1, oGetR 5 2), (4, oLdR 0 1), (5, oGetR 5 0), (8, oLdI 1 1), (9, oALdR 14), (10, oLdI 2 1), (11, oALdI 10), (12, oALdI 10), (13, oRetI)]
theorem sm_27_0 : ∀ q ∈ tb_27_0, SM GwP MdP D A l 27 q.1 q.2 :=
  List.forall_mem_cons.mpr ⟨sd_oLdR_n 27 0 0 0 rfl (dk_27_0 (0, .aload_n 0, 1) (List.mem_of_getElem? (i := 0) rfl)),
  List.forall_mem_cons.mpr ⟨sd_oGetR 27 1 5 2 20 RX4 TX4 5 rfl ⟨by decide, by decide⟩ rfl (by decide) rfl (fun w h => iw_27 w (uz_4 w h)) rfl (iw_27 _ zw55) (dk_27_0 (1, .getfield 20, 3) (List.mem_of_getElem? (i := 1) rfl)),
  List.forall_mem_cons.mpr ⟨sd_oLdR_n 27 4 0 0 rfl (dk_27_0 (4, .aload_n 0, 1) (List.mem_of_getElem? (i := 2) rfl)),
  List.forall_mem_cons.mpr ⟨sd_oGetR 27 5 5 0 11 RX4 TX4 5 rfl ⟨by decide, by decide⟩ rfl (by decide) rfl (fun w h => iw_27 w (uz_4 w h)) rfl (iw_27 _ zw53) (dk_27_0 (5, .getfield 11, 3) (List.mem_of_getElem? (i := 3) rfl)),
  List.forall_mem_cons.mpr ⟨sd_oLdI_n 27 8 1 1 rfl (dk_27_0 (8, .iload_n 1, 1) (List.mem_of_getElem? (i := 4) rfl)),
  List.forall_mem_cons.mpr ⟨sd_aaldA 27 9 (dk_27_0 (9, .aaload, 1) (List.mem_of_getElem? (i := 5) rfl)),
  List.forall_mem_cons.mpr ⟨sd_oLdI_n 27 10 2 2 rfl (dk_27_0 (10, .iload_n 2, 1) (List.mem_of_getElem? (i := 6) rfl)),
  List.forall_mem_cons.mpr ⟨sd_iald 27 11 (dk_27_0 (11, .iaload, 1) (List.mem_of_getElem? (i := 7) rfl)),
  List.forall_mem_cons.mpr ⟨sd_iald 27 12 (dk_27_0 (12, .iaload, 1) (List.mem_of_getElem? (i := 8) rfl)),
  List.forall_mem_cons.mpr ⟨sd_iret 27 13 rfl (dk_27_0 (13, .ireturn, 1) (List.mem_of_getElem? (i := 9) rfl)),
  fun _ h => nomatch h⟩⟩⟩⟩⟩⟩⟩⟩⟩⟩
def tb_27 : List (Nat × Op1) := tb_27_0
theorem sm_27 : ∀ q ∈ tb_27, SM GwP MdP D A l 27 q.1 q.2 := sm_27_0
-- 28: Marginalia$Text.placeNow(II)I
def dl_28_0 : List (Nat × Instr × Nat) := [(0, .aload_n 0, 1), (1, .getfield 11, 3), (4, .iload_n 1, 1), (5, .aaload, 1), (6, .iload_n 2, 1), (7, .iaload, 1), (8, .istore_n 3, 1), (9, .iconst 0, 1), (10, .istore 4, 2), (12, .iload 4, 2), (14, .aload_n 0, 1), (15, .invokevirtual 27, 3), (18, .if_icmp .ge 28, 3), (21, .aload_n 0, 1), (22, .getfield 11, 3), (25, .aload_n 0, 1), (26, .getfield 23, 3), (29, .aaload, 1), (30, .iload 4, 2), (32, .iaload, 1), (33, .iload_n 3, 1), (34, .if_icmp .ne 6, 3), (37, .iload 4, 2), (39, .ireturn, 1), (40, .iinc 4 1, 3), (43, .goto (-31), 3), (46, .iconst (-1), 1), (47, .ireturn, 1)]
theorem dk_28_0 : ∀ q ∈ dl_28_0, decode (mCod (MdP 28)) q.1 = .ok q.2 := by
  rw [show mCod (MdP 28) = cX4_placeNow from rfl]
  decide +kernel
def tb_28_0 : List (Nat × Op1) := [(0, oLdR 0 1), (1, oGetR 5 0), (4, oLdI 1 1), (5, oALdR 14), (6, oLdI 2 1), (7, oALdI 10), (8, oStI 3 1), (9, oCI 0 1), (10, oStI 4 2), (12, oLdI 4 2), (14, oLdR 0 1), (15, oCallV 23 0 1 5 []), (18, oCge 46), (21, oLdR 0 1), (22, oGetR 5 0), (25, oLdR 0 1), (26, oGetI 5 4), (29, oALdR 14), (30, oLdI 4 2), (32, oALdI 10), (33, oLdI 3 1), (34, oCne 40), (37, oLdI 4 2), (39, oRetI), (40, oInc 4 1), (43, oGoto 12), (46, oCI (-1) 1), (47, oRetI)]
theorem sm_28_0 : ∀ q ∈ tb_28_0, SM GwP MdP D A l 28 q.1 q.2 :=
  List.forall_mem_cons.mpr ⟨sd_oLdR_n 28 0 0 0 rfl (dk_28_0 (0, .aload_n 0, 1) (List.mem_of_getElem? (i := 0) rfl)),
  List.forall_mem_cons.mpr ⟨sd_oGetR 28 1 5 0 11 RX4 TX4 5 rfl ⟨by decide, by decide⟩ rfl (by decide) rfl (fun w h => iw_28 w (uz_4 w h)) rfl (iw_28 _ zw53) (dk_28_0 (1, .getfield 11, 3) (List.mem_of_getElem? (i := 1) rfl)),
  List.forall_mem_cons.mpr ⟨sd_oLdI_n 28 4 1 1 rfl (dk_28_0 (4, .iload_n 1, 1) (List.mem_of_getElem? (i := 2) rfl)),
  List.forall_mem_cons.mpr ⟨sd_aaldA 28 5 (dk_28_0 (5, .aaload, 1) (List.mem_of_getElem? (i := 3) rfl)),
  List.forall_mem_cons.mpr ⟨sd_oLdI_n 28 6 2 2 rfl (dk_28_0 (6, .iload_n 2, 1) (List.mem_of_getElem? (i := 4) rfl)),
  List.forall_mem_cons.mpr ⟨sd_iald 28 7 (dk_28_0 (7, .iaload, 1) (List.mem_of_getElem? (i := 5) rfl)),
  List.forall_mem_cons.mpr ⟨sd_oStI_n 28 8 3 3 rfl (by decide) (dk_28_0 (8, .istore_n 3, 1) (List.mem_of_getElem? (i := 6) rfl)),
  List.forall_mem_cons.mpr ⟨sd_iconst 28 9 0 ⟨by decide, by decide⟩ (dk_28_0 (9, .iconst 0, 1) (List.mem_of_getElem? (i := 7) rfl)),
  List.forall_mem_cons.mpr ⟨sd_oStI 28 10 4 (by decide) (dk_28_0 (10, .istore 4, 2) (List.mem_of_getElem? (i := 8) rfl)),
  List.forall_mem_cons.mpr ⟨sd_oLdI 28 12 4 (dk_28_0 (12, .iload 4, 2) (List.mem_of_getElem? (i := 9) rfl)),
  List.forall_mem_cons.mpr ⟨sd_oLdR_n 28 14 0 0 rfl (dk_28_0 (14, .aload_n 0, 1) (List.mem_of_getElem? (i := 10) rfl)),
  List.forall_mem_cons.mpr ⟨sd_callV 28 15 23 0 1 27 5 [] (gdV hws_28 hws_23 zw58 zw59 zw60 zw61 zw57) hws_23 rfl (by decide +kernel) rfl rfl ⟨by decide +kernel, by decide +kernel, by decide +kernel⟩ ⟨by decide, by decide⟩ (catch_nil rfl) RX4 rfl TX4 5 rfl ⟨by decide, by decide⟩ (dk_28_0 (15, .invokevirtual 27, 3) (List.mem_of_getElem? (i := 11) rfl)),
  List.forall_mem_cons.mpr ⟨sd_icmp_ge 28 18 28 46 (by decide) (dk_28_0 (18, .if_icmp .ge 28, 3) (List.mem_of_getElem? (i := 12) rfl)),
  List.forall_mem_cons.mpr ⟨sd_oLdR_n 28 21 0 0 rfl (dk_28_0 (21, .aload_n 0, 1) (List.mem_of_getElem? (i := 13) rfl)),
  List.forall_mem_cons.mpr ⟨sd_oGetR 28 22 5 0 11 RX4 TX4 5 rfl ⟨by decide, by decide⟩ rfl (by decide) rfl (fun w h => iw_28 w (uz_4 w h)) rfl (iw_28 _ zw53) (dk_28_0 (22, .getfield 11, 3) (List.mem_of_getElem? (i := 14) rfl)),
  List.forall_mem_cons.mpr ⟨sd_oLdR_n 28 25 0 0 rfl (dk_28_0 (25, .aload_n 0, 1) (List.mem_of_getElem? (i := 15) rfl)),
  List.forall_mem_cons.mpr ⟨sd_oGetI 28 26 5 4 23 RX4 TX4 5 rfl ⟨by decide, by decide⟩ rfl (by decide) rfl (fun w h => iw_28 w (uz_4 w h)) rfl (iw_28 _ zw56) (dk_28_0 (26, .getfield 23, 3) (List.mem_of_getElem? (i := 16) rfl)),
  List.forall_mem_cons.mpr ⟨sd_aaldA 28 29 (dk_28_0 (29, .aaload, 1) (List.mem_of_getElem? (i := 17) rfl)),
  List.forall_mem_cons.mpr ⟨sd_oLdI 28 30 4 (dk_28_0 (30, .iload 4, 2) (List.mem_of_getElem? (i := 18) rfl)),
  List.forall_mem_cons.mpr ⟨sd_iald 28 32 (dk_28_0 (32, .iaload, 1) (List.mem_of_getElem? (i := 19) rfl)),
  List.forall_mem_cons.mpr ⟨sd_oLdI_n 28 33 3 3 rfl (dk_28_0 (33, .iload_n 3, 1) (List.mem_of_getElem? (i := 20) rfl)),
  List.forall_mem_cons.mpr ⟨sd_icmp_ne 28 34 6 40 (by decide) (dk_28_0 (34, .if_icmp .ne 6, 3) (List.mem_of_getElem? (i := 21) rfl)),
  List.forall_mem_cons.mpr ⟨sd_oLdI 28 37 4 (dk_28_0 (37, .iload 4, 2) (List.mem_of_getElem? (i := 22) rfl)),
  List.forall_mem_cons.mpr ⟨sd_iret 28 39 rfl (dk_28_0 (39, .ireturn, 1) (List.mem_of_getElem? (i := 23) rfl)),
  List.forall_mem_cons.mpr ⟨sd_iinc 28 40 4 1 (by decide) (dk_28_0 (40, .iinc 4 1, 3) (List.mem_of_getElem? (i := 24) rfl)),
  List.forall_mem_cons.mpr ⟨sd_goto 28 43 (-31) 12 (by decide) (dk_28_0 (43, .goto (-31), 3) (List.mem_of_getElem? (i := 25) rfl)),
  List.forall_mem_cons.mpr ⟨sd_iconst 28 46 (-1) ⟨by decide, by decide⟩ (dk_28_0 (46, .iconst (-1), 1) (List.mem_of_getElem? (i := 26) rfl)),
  List.forall_mem_cons.mpr ⟨sd_iret 28 47 rfl (dk_28_0 (47, .ireturn, 1) (List.mem_of_getElem? (i := 27) rfl)),
  fun _ h => nomatch h⟩⟩⟩⟩⟩⟩⟩⟩⟩⟩⟩⟩⟩⟩⟩⟩⟩⟩⟩⟩⟩⟩⟩⟩⟩⟩⟩⟩
def tb_28 : List (Nat × Op1) := tb_28_0
theorem sm_28 : ∀ q ∈ tb_28, SM GwP MdP D A l 28 q.1 q.2 := sm_28_0
-- 29: Marginalia$Text.hasAt(I[I)Z
def dl_29_0 : List (Nat × Instr × Nat) := [(0, .iload_n 1, 1), (1, .iconst 0, 1), (2, .aload_n 0, 1), (3, .invokevirtual 27, 3), (6, .aload_n 2, 1), (7, .arraylength, 1), (8, .isub, 1), (9, .invokestatic 31, 3), (12, .ifCond .ne 5, 3), (15, .iconst 0, 1), (16, .ireturn, 1), (17, .iconst 0, 1), (18, .istore_n 3, 1), (19, .iload_n 3, 1), (20, .aload_n 2, 1), (21, .arraylength, 1), (22, .if_icmp .ge 28, 3), (25, .aload_n 0, 1), (26, .aload_n 0, 1), (27, .getfield 23, 3), (30, .iload_n 1, 1), (31, .iload_n 3, 1), (32, .iadd, 1), (33, .invokevirtual 35, 3), (36, .aload_n 2, 1), (37, .iload_n 3, 1), (38, .iaload, 1), (39, .if_icmp .eq 5, 3), (42, .iconst 0, 1), (43, .ireturn, 1), (44, .iinc 3 1, 3), (47, .goto (-28), 3), (50, .iconst 1, 1), (51, .ireturn, 1)]
theorem dk_29_0 : ∀ q ∈ dl_29_0, decode (mCod (MdP 29)) q.1 = .ok q.2 := by
  rw [show mCod (MdP 29) = cX4_hasAt from rfl]
  decide +kernel
def tb_29_0 : List (Nat × Op1) := [(0, oLdI 1 1), (1, oCI 0 1), (2, oLdR 0 1), (3, oCallV 23 0 1 5 []), (6, oLdR 2 1), (7, oALen 10), (8, oSub), (9, oCallS 67 3 3 []), (12, oZne 17), (15, oCI 0 1), (16, oRetZ), (17, oCI 0 1), (18, oStI 3 1), (19, oLdI 3 1), (20, oLdR 2 1), (21, oALen 10), (22, oCge 50), (25, oLdR 0 1), (26, oLdR 0 1), (27, oGetI 5 4), (30, oLdI 1 1), (31, oLdI 3 1), (32, oAdd), (33, oCallV 27 2 3 5 []), (36, oLdR 2 1), (37, oLdI 3 1), (38, oALdI 10), (39, oCeq 44), (42, oCI 0 1), (43, oRetZ), (44, oInc 3 1), (47, oGoto 19), (50, oCI 1 1), (51, oRetZ)]
theorem sm_29_0 : ∀ q ∈ tb_29_0, SM GwP MdP D A l 29 q.1 q.2 :=
  List.forall_mem_cons.mpr ⟨sd_oLdI_n 29 0 1 1 rfl (dk_29_0 (0, .iload_n 1, 1) (List.mem_of_getElem? (i := 0) rfl)),
  List.forall_mem_cons.mpr ⟨sd_iconst 29 1 0 ⟨by decide, by decide⟩ (dk_29_0 (1, .iconst 0, 1) (List.mem_of_getElem? (i := 1) rfl)),
  List.forall_mem_cons.mpr ⟨sd_oLdR_n 29 2 0 0 rfl (dk_29_0 (2, .aload_n 0, 1) (List.mem_of_getElem? (i := 2) rfl)),
  List.forall_mem_cons.mpr ⟨sd_callV 29 3 23 0 1 27 5 [] (gdV hws_29 hws_23 zw58 zw59 zw60 zw61 zw57) hws_23 rfl (by decide +kernel) rfl rfl ⟨by decide +kernel, by decide +kernel, by decide +kernel⟩ ⟨by decide, by decide⟩ (catch_nil rfl) RX4 rfl TX4 5 rfl ⟨by decide, by decide⟩ (dk_29_0 (3, .invokevirtual 27, 3) (List.mem_of_getElem? (i := 3) rfl)),
  List.forall_mem_cons.mpr ⟨sd_oLdR_n 29 6 2 2 rfl (dk_29_0 (6, .aload_n 2, 1) (List.mem_of_getElem? (i := 4) rfl)),
  List.forall_mem_cons.mpr ⟨sd_alen 29 7 10 ⟨by decide, by decide⟩ (dk_29_0 (7, .arraylength, 1) (List.mem_of_getElem? (i := 5) rfl)),
  List.forall_mem_cons.mpr ⟨sd_isub 29 8 (dk_29_0 (8, .isub, 1) (List.mem_of_getElem? (i := 6) rfl)),
  List.forall_mem_cons.mpr ⟨sd_callSN 29 9 67 3 3 31 [] (gdI hws_29 hws_67 zw62) "Marginalia" (List.mem_of_getElem? (i := 0) rfl) (iw_29 _ zw63) (iw_29 _ zw64) hws_67 rfl (by decide +kernel) rfl rfl ⟨by decide +kernel, by decide +kernel, by decide +kernel⟩ ⟨by decide, by decide⟩ (catch_nil rfl) (dk_29_0 (9, .invokestatic 31, 3) (List.mem_of_getElem? (i := 7) rfl)),
  List.forall_mem_cons.mpr ⟨sd_if_ne 29 12 5 17 (by decide) (dk_29_0 (12, .ifCond .ne 5, 3) (List.mem_of_getElem? (i := 8) rfl)),
  List.forall_mem_cons.mpr ⟨sd_iconst 29 15 0 ⟨by decide, by decide⟩ (dk_29_0 (15, .iconst 0, 1) (List.mem_of_getElem? (i := 9) rfl)),
  List.forall_mem_cons.mpr ⟨sd_zret 29 16 rfl (dk_29_0 (16, .ireturn, 1) (List.mem_of_getElem? (i := 10) rfl)),
  List.forall_mem_cons.mpr ⟨sd_iconst 29 17 0 ⟨by decide, by decide⟩ (dk_29_0 (17, .iconst 0, 1) (List.mem_of_getElem? (i := 11) rfl)),
  List.forall_mem_cons.mpr ⟨sd_oStI_n 29 18 3 3 rfl (by decide) (dk_29_0 (18, .istore_n 3, 1) (List.mem_of_getElem? (i := 12) rfl)),
  List.forall_mem_cons.mpr ⟨sd_oLdI_n 29 19 3 3 rfl (dk_29_0 (19, .iload_n 3, 1) (List.mem_of_getElem? (i := 13) rfl)),
  List.forall_mem_cons.mpr ⟨sd_oLdR_n 29 20 2 2 rfl (dk_29_0 (20, .aload_n 2, 1) (List.mem_of_getElem? (i := 14) rfl)),
  List.forall_mem_cons.mpr ⟨sd_alen 29 21 10 ⟨by decide, by decide⟩ (dk_29_0 (21, .arraylength, 1) (List.mem_of_getElem? (i := 15) rfl)),
  List.forall_mem_cons.mpr ⟨sd_icmp_ge 29 22 28 50 (by decide) (dk_29_0 (22, .if_icmp .ge 28, 3) (List.mem_of_getElem? (i := 16) rfl)),
  List.forall_mem_cons.mpr ⟨sd_oLdR_n 29 25 0 0 rfl (dk_29_0 (25, .aload_n 0, 1) (List.mem_of_getElem? (i := 17) rfl)),
  List.forall_mem_cons.mpr ⟨sd_oLdR_n 29 26 0 0 rfl (dk_29_0 (26, .aload_n 0, 1) (List.mem_of_getElem? (i := 18) rfl)),
  List.forall_mem_cons.mpr ⟨sd_oGetI 29 27 5 4 23 RX4 TX4 5 rfl ⟨by decide, by decide⟩ rfl (by decide) rfl (fun w h => iw_29 w (uz_4 w h)) rfl (iw_29 _ zw56) (dk_29_0 (27, .getfield 23, 3) (List.mem_of_getElem? (i := 19) rfl)),
  List.forall_mem_cons.mpr ⟨sd_oLdI_n 29 30 1 1 rfl (dk_29_0 (30, .iload_n 1, 1) (List.mem_of_getElem? (i := 20) rfl)),
  List.forall_mem_cons.mpr ⟨sd_oLdI_n 29 31 3 3 rfl (dk_29_0 (31, .iload_n 3, 1) (List.mem_of_getElem? (i := 21) rfl)),
  List.forall_mem_cons.mpr ⟨sd_iadd 29 32 (dk_29_0 (32, .iadd, 1) (List.mem_of_getElem? (i := 22) rfl)),
  List.forall_mem_cons.mpr ⟨sd_callV 29 33 27 2 3 35 5 [] (gdV hws_29 hws_27 zw66 zw67 zw68 zw61 zw65) hws_27 rfl (by decide +kernel) rfl rfl ⟨by decide +kernel, by decide +kernel, by decide +kernel⟩ ⟨by decide, by decide⟩ (catch_nil rfl) RX4 rfl TX4 5 rfl ⟨by decide, by decide⟩ (dk_29_0 (33, .invokevirtual 35, 3) (List.mem_of_getElem? (i := 23) rfl)),
  List.forall_mem_cons.mpr ⟨sd_oLdR_n 29 36 2 2 rfl (dk_29_0 (36, .aload_n 2, 1) (List.mem_of_getElem? (i := 24) rfl)),
  List.forall_mem_cons.mpr ⟨sd_oLdI_n 29 37 3 3 rfl (dk_29_0 (37, .iload_n 3, 1) (List.mem_of_getElem? (i := 25) rfl)),
  List.forall_mem_cons.mpr ⟨sd_iald 29 38 (dk_29_0 (38, .iaload, 1) (List.mem_of_getElem? (i := 26) rfl)),
  List.forall_mem_cons.mpr ⟨sd_icmp_eq 29 39 5 44 (by decide) (dk_29_0 (39, .if_icmp .eq 5, 3) (List.mem_of_getElem? (i := 27) rfl)),
  List.forall_mem_cons.mpr ⟨sd_iconst 29 42 0 ⟨by decide, by decide⟩ (dk_29_0 (42, .iconst 0, 1) (List.mem_of_getElem? (i := 28) rfl)),
  List.forall_mem_cons.mpr ⟨sd_zret 29 43 rfl (dk_29_0 (43, .ireturn, 1) (List.mem_of_getElem? (i := 29) rfl)),
  List.forall_mem_cons.mpr ⟨sd_iinc 29 44 3 1 (by decide) (dk_29_0 (44, .iinc 3 1, 3) (List.mem_of_getElem? (i := 30) rfl)),
  List.forall_mem_cons.mpr ⟨sd_goto 29 47 (-28) 19 (by decide) (dk_29_0 (47, .goto (-28), 3) (List.mem_of_getElem? (i := 31) rfl)),
  List.forall_mem_cons.mpr ⟨sd_iconst 29 50 1 ⟨by decide, by decide⟩ (dk_29_0 (50, .iconst 1, 1) (List.mem_of_getElem? (i := 32) rfl)),
  List.forall_mem_cons.mpr ⟨sd_zret 29 51 rfl (dk_29_0 (51, .ireturn, 1) (List.mem_of_getElem? (i := 33) rfl)),
  fun _ h => nomatch h⟩⟩⟩⟩⟩⟩⟩⟩⟩⟩⟩⟩⟩⟩⟩⟩⟩⟩⟩⟩⟩⟩⟩⟩⟩⟩⟩⟩⟩⟩⟩⟩⟩⟩
def tb_29 : List (Nat × Op1) := tb_29_0
theorem sm_29 : ∀ q ∈ tb_29, SM GwP MdP D A l 29 q.1 q.2 := sm_29_0
-- 30: Marginalia$Text.edit(IIII)V
def dl_30_0 : List (Nat × Instr × Nat) := [(0, .aload_n 0, 1), (1, .getfield 11, 3), (4, .aload_n 0, 1), (5, .getfield 23, 3), (8, .aaload, 1), (9, .astore 5, 2), (11, .aload_n 0, 1), (12, .getfield 11, 3), (15, .aload_n 0, 1), (16, .getfield 23, 3), (19, .iconst 1, 1), (20, .iadd, 1), (21, .aaload, 1), (22, .astore 6, 2), (24, .aload 5, 2), (26, .iconst 0, 1), (27, .aload 6, 2), (29, .iconst 0, 1), (30, .iload_n 1, 1), (31, .invokestatic 39, 3), (34, .iconst 0, 1), (35, .istore 7, 2), (37, .iload 7, 2), (39, .iload_n 3, 1), (40, .if_icmp .ge 47, 3), (43, .aload_n 0, 1), (44, .getfield 20, 3), (47, .aload_n 0, 1), (48, .getfield 45, 3), (51, .iload 4, 2), (53, .iload 7, 2), (55, .iadd, 1), (56, .bipush 26, 2), (58, .irem, 1), (59, .iastore, 1), (60, .aload 6, 2), (62, .iload_n 1, 1), (63, .iload 7, 2), (65, .iadd, 1), (66, .aload_n 0, 1)]
theorem dk_30_0 : ∀ q ∈ dl_30_0, decode (mCod (MdP 30)) q.1 = .ok q.2 := by
  rw [show mCod (MdP 30) = cX4_edit from rfl]
  decide +kernel
def dl_30_1 : List (Nat × Instr × Nat) := [(67, .getfield 45, 3), (70, .iastore, 1), (71, .aload_n 0, 1), (72, .dup, 1), (73, .getfield 45, 3), (76, .iconst 1, 1), (77, .iadd, 1), (78, .putfield 45, 3), (81, .iinc 7 1, 3), (84, .goto (-47), 3), (87, .aload 5, 2), (89, .iload_n 1, 1), (90, .iload_n 2, 1), (91, .iadd, 1), (92, .aload 6, 2), (94, .iload_n 1, 1), (95, .iload_n 3, 1), (96, .iadd, 1), (97, .aload_n 0, 1), (98, .invokevirtual 27, 3), (101, .iload_n 1, 1), (102, .isub, 1), (103, .iload_n 2, 1), (104, .isub, 1), (105, .invokestatic 39, 3), (108, .aload_n 0, 1), (109, .getfield 16, 3), (112, .aload_n 0, 1), (113, .getfield 23, 3), (116, .iconst 1, 1), (117, .iadd, 1), (118, .aload_n 0, 1), (119, .invokevirtual 27, 3), (122, .iload_n 2, 1), (123, .isub, 1), (124, .iload_n 3, 1), (125, .iadd, 1), (126, .iastore, 1), (127, .aload_n 0, 1), (128, .dup, 1)]
theorem dk_30_1 : ∀ q ∈ dl_30_1, decode (mCod (MdP 30)) q.1 = .ok q.2 := by
  rw [show mCod (MdP 30) = cX4_edit from rfl]
  decide +kernel
def dl_30_2 : List (Nat × Instr × Nat) := [(129, .getfield 23, 3), (132, .iconst 1, 1), (133, .iadd, 1), (134, .putfield 23, 3), (137, .return_, 1)]
theorem dk_30_2 : ∀ q ∈ dl_30_2, decode (mCod (MdP 30)) q.1 = .ok q.2 := by
  rw [show mCod (MdP 30) = cX4_edit from rfl]
  decide +kernel
def tb_30_0 : List (Nat × Op1) := [(0, oLdR 0 1), (1, oGetR 5 0), (4, oLdR 0 1), (5, oGetI 5 4), (8, oALdR 14), (9, oStR 5 2), (11, oLdR 0 1), (12, oGetR 5 0), (15, oLdR 0 1), (16, oGetI 5 4), (19, oCI 1 1), (20, oAdd), (21, oALdR 14), (22, oStR 6 2), (24, oLdR 5 2), (26, oCI 0 1), (27, oLdR 6 2), (29, oCI 0 1), (30, oLdI 1 1), (31, oCpy), (34, oCI 0 1), (35, oStI 7 2), (37, oLdI 7 2), (39, oLdI 3 1), (40, oCge 87), (43, oLdR 0 1), (44, oGetR 5 2), (47, oLdR 0 1), (48, oGetI 5 3), (51, oLdI 4 2), (53, oLdI 7 2), (55, oAdd), (56, oCI 26 2), (58, oRem), (59, oAStI), (60, oLdR 6 2), (62, oLdI 1 1), (63, oLdI 7 2), (65, oAdd), (66, oLdR 0 1)]
theorem sm_30_0 : ∀ q ∈ tb_30_0, SM GwP MdP D A l 30 q.1 q.2 :=
  List.forall_mem_cons.mpr ⟨sd_oLdR_n 30 0 0 0 rfl (dk_30_0 (0, .aload_n 0, 1) (List.mem_of_getElem? (i := 0) rfl)),
  List.forall_mem_cons.mpr ⟨sd_oGetR 30 1 5 0 11 RX4 TX4 5 rfl ⟨by decide, by decide⟩ rfl (by decide) rfl (fun w h => iw_30 w (uz_4 w h)) rfl (iw_30 _ zw53) (dk_30_0 (1, .getfield 11, 3) (List.mem_of_getElem? (i := 1) rfl)),
  List.forall_mem_cons.mpr ⟨sd_oLdR_n 30 4 0 0 rfl (dk_30_0 (4, .aload_n 0, 1) (List.mem_of_getElem? (i := 2) rfl)),
  List.forall_mem_cons.mpr ⟨sd_oGetI 30 5 5 4 23 RX4 TX4 5 rfl ⟨by decide, by decide⟩ rfl (by decide) rfl (fun w h => iw_30 w (uz_4 w h)) rfl (iw_30 _ zw56) (dk_30_0 (5, .getfield 23, 3) (List.mem_of_getElem? (i := 3) rfl)),
  List.forall_mem_cons.mpr ⟨sd_aaldA 30 8 (dk_30_0 (8, .aaload, 1) (List.mem_of_getElem? (i := 4) rfl)),
  List.forall_mem_cons.mpr ⟨sd_oStR 30 9 5 (by decide) (dk_30_0 (9, .astore 5, 2) (List.mem_of_getElem? (i := 5) rfl)),
  List.forall_mem_cons.mpr ⟨sd_oLdR_n 30 11 0 0 rfl (dk_30_0 (11, .aload_n 0, 1) (List.mem_of_getElem? (i := 6) rfl)),
  List.forall_mem_cons.mpr ⟨sd_oGetR 30 12 5 0 11 RX4 TX4 5 rfl ⟨by decide, by decide⟩ rfl (by decide) rfl (fun w h => iw_30 w (uz_4 w h)) rfl (iw_30 _ zw53) (dk_30_0 (12, .getfield 11, 3) (List.mem_of_getElem? (i := 7) rfl)),
  List.forall_mem_cons.mpr ⟨sd_oLdR_n 30 15 0 0 rfl (dk_30_0 (15, .aload_n 0, 1) (List.mem_of_getElem? (i := 8) rfl)),
  List.forall_mem_cons.mpr ⟨sd_oGetI 30 16 5 4 23 RX4 TX4 5 rfl ⟨by decide, by decide⟩ rfl (by decide) rfl (fun w h => iw_30 w (uz_4 w h)) rfl (iw_30 _ zw56) (dk_30_0 (16, .getfield 23, 3) (List.mem_of_getElem? (i := 9) rfl)),
  List.forall_mem_cons.mpr ⟨sd_iconst 30 19 1 ⟨by decide, by decide⟩ (dk_30_0 (19, .iconst 1, 1) (List.mem_of_getElem? (i := 10) rfl)),
  List.forall_mem_cons.mpr ⟨sd_iadd 30 20 (dk_30_0 (20, .iadd, 1) (List.mem_of_getElem? (i := 11) rfl)),
  List.forall_mem_cons.mpr ⟨sd_aaldA 30 21 (dk_30_0 (21, .aaload, 1) (List.mem_of_getElem? (i := 12) rfl)),
  List.forall_mem_cons.mpr ⟨sd_oStR 30 22 6 (by decide) (dk_30_0 (22, .astore 6, 2) (List.mem_of_getElem? (i := 13) rfl)),
  List.forall_mem_cons.mpr ⟨sd_oLdR 30 24 5 (dk_30_0 (24, .aload 5, 2) (List.mem_of_getElem? (i := 14) rfl)),
  List.forall_mem_cons.mpr ⟨sd_iconst 30 26 0 ⟨by decide, by decide⟩ (dk_30_0 (26, .iconst 0, 1) (List.mem_of_getElem? (i := 15) rfl)),
  List.forall_mem_cons.mpr ⟨sd_oLdR 30 27 6 (dk_30_0 (27, .aload 6, 2) (List.mem_of_getElem? (i := 16) rfl)),
  List.forall_mem_cons.mpr ⟨sd_iconst 30 29 0 ⟨by decide, by decide⟩ (dk_30_0 (29, .iconst 0, 1) (List.mem_of_getElem? (i := 17) rfl)),
  List.forall_mem_cons.mpr ⟨sd_oLdI_n 30 30 1 1 rfl (dk_30_0 (30, .iload_n 1, 1) (List.mem_of_getElem? (i := 18) rfl)),
  List.forall_mem_cons.mpr ⟨sd_cpy 30 31 39 (iw_30 _ zw69) (iw_30 _ zw70) (iw_30 _ zw71) (iw_30 _ zw72) (by decide) (by decide) (dk_30_0 (31, .invokestatic 39, 3) (List.mem_of_getElem? (i := 19) rfl)),
  List.forall_mem_cons.mpr ⟨sd_iconst 30 34 0 ⟨by decide, by decide⟩ (dk_30_0 (34, .iconst 0, 1) (List.mem_of_getElem? (i := 20) rfl)),
  List.forall_mem_cons.mpr ⟨sd_oStI 30 35 7 (by decide) (dk_30_0 (35, .istore 7, 2) (List.mem_of_getElem? (i := 21) rfl)),
  List.forall_mem_cons.mpr ⟨sd_oLdI 30 37 7 (dk_30_0 (37, .iload 7, 2) (List.mem_of_getElem? (i := 22) rfl)),
  List.forall_mem_cons.mpr ⟨sd_oLdI_n 30 39 3 3 rfl (dk_30_0 (39, .iload_n 3, 1) (List.mem_of_getElem? (i := 23) rfl)),
  List.forall_mem_cons.mpr ⟨sd_icmp_ge 30 40 47 87 (by decide) (dk_30_0 (40, .if_icmp .ge 47, 3) (List.mem_of_getElem? (i := 24) rfl)),
  List.forall_mem_cons.mpr ⟨sd_oLdR_n 30 43 0 0 rfl (dk_30_0 (43, .aload_n 0, 1) (List.mem_of_getElem? (i := 25) rfl)),
  List.forall_mem_cons.mpr ⟨sd_oGetR 30 44 5 2 20 RX4 TX4 5 rfl ⟨by decide, by decide⟩ rfl (by decide) rfl (fun w h => iw_30 w (uz_4 w h)) rfl (iw_30 _ zw55) (dk_30_0 (44, .getfield 20, 3) (List.mem_of_getElem? (i := 26) rfl)),
  List.forall_mem_cons.mpr ⟨sd_oLdR_n 30 47 0 0 rfl (dk_30_0 (47, .aload_n 0, 1) (List.mem_of_getElem? (i := 27) rfl)),
  List.forall_mem_cons.mpr ⟨sd_oGetI 30 48 5 3 45 RX4 TX4 5 rfl ⟨by decide, by decide⟩ rfl (by decide) rfl (fun w h => iw_30 w (uz_4 w h)) rfl (iw_30 _ zw73) (dk_30_0 (48, .getfield 45, 3) (List.mem_of_getElem? (i := 28) rfl)),
  List.forall_mem_cons.mpr ⟨sd_oLdI 30 51 4 (dk_30_0 (51, .iload 4, 2) (List.mem_of_getElem? (i := 29) rfl)),
  List.forall_mem_cons.mpr ⟨sd_oLdI 30 53 7 (dk_30_0 (53, .iload 7, 2) (List.mem_of_getElem? (i := 30) rfl)),
  List.forall_mem_cons.mpr ⟨sd_iadd 30 55 (dk_30_0 (55, .iadd, 1) (List.mem_of_getElem? (i := 31) rfl)),
  List.forall_mem_cons.mpr ⟨sd_bipush 30 56 26 ⟨by decide, by decide⟩ (by decide) (dk_30_0 (56, .bipush 26, 2) (List.mem_of_getElem? (i := 32) rfl)),
  List.forall_mem_cons.mpr ⟨sd_irem 30 58 (dk_30_0 (58, .irem, 1) (List.mem_of_getElem? (i := 33) rfl)),
  List.forall_mem_cons.mpr ⟨sd_iast 30 59 (dk_30_0 (59, .iastore, 1) (List.mem_of_getElem? (i := 34) rfl)),
  List.forall_mem_cons.mpr ⟨sd_oLdR 30 60 6 (dk_30_0 (60, .aload 6, 2) (List.mem_of_getElem? (i := 35) rfl)),
  List.forall_mem_cons.mpr ⟨sd_oLdI_n 30 62 1 1 rfl (dk_30_0 (62, .iload_n 1, 1) (List.mem_of_getElem? (i := 36) rfl)),
  List.forall_mem_cons.mpr ⟨sd_oLdI 30 63 7 (dk_30_0 (63, .iload 7, 2) (List.mem_of_getElem? (i := 37) rfl)),
  List.forall_mem_cons.mpr ⟨sd_iadd 30 65 (dk_30_0 (65, .iadd, 1) (List.mem_of_getElem? (i := 38) rfl)),
  List.forall_mem_cons.mpr ⟨sd_oLdR_n 30 66 0 0 rfl (dk_30_0 (66, .aload_n 0, 1) (List.mem_of_getElem? (i := 39) rfl)),
  fun _ h => nomatch h⟩⟩⟩⟩⟩⟩⟩⟩⟩⟩⟩⟩⟩⟩⟩⟩⟩⟩⟩⟩⟩⟩⟩⟩⟩⟩⟩⟩⟩⟩⟩⟩⟩⟩⟩⟩⟩⟩⟩⟩
def tb_30_1 : List (Nat × Op1) := [(67, oGetI 5 3), (70, oAStI), (71, oLdR 0 1), (72, oDup), (73, oGetI 5 3), (76, oCI 1 1), (77, oAdd), (78, oPutI 5 3), (81, oInc 7 1), (84, oGoto 37), (87, oLdR 5 2), (89, oLdI 1 1), (90, oLdI 2 1), (91, oAdd), (92, oLdR 6 2), (94, oLdI 1 1), (95, oLdI 3 1), (96, oAdd), (97, oLdR 0 1), (98, oCallV 23 0 1 5 []), (101, oLdI 1 1), (102, oSub), (103, oLdI 2 1), (104, oSub), (105, oCpy), (108, oLdR 0 1), (109, oGetR 5 1), (112, oLdR 0 1), (113, oGetI 5 4), (116, oCI 1 1), (117, oAdd), (118, oLdR 0 1), (119, oCallV 23 0 1 5 []), (122, oLdI 2 1), (123, oSub), (124, oLdI 3 1), (125, oAdd), (126, oAStI), (127, oLdR 0 1), (128, oDup)]
theorem sm_30_1 : ∀ q ∈ tb_30_1, SM GwP MdP D A l 30 q.1 q.2 :=
  List.forall_mem_cons.mpr ⟨sd_oGetI 30 67 5 3 45 RX4 TX4 5 rfl ⟨by decide, by decide⟩ rfl (by decide) rfl (fun w h => iw_30 w (uz_4 w h)) rfl (iw_30 _ zw73) (dk_30_1 (67, .getfield 45, 3) (List.mem_of_getElem? (i := 0) rfl)),
  List.forall_mem_cons.mpr ⟨sd_iast 30 70 (dk_30_1 (70, .iastore, 1) (List.mem_of_getElem? (i := 1) rfl)),
  List.forall_mem_cons.mpr ⟨sd_oLdR_n 30 71 0 0 rfl (dk_30_1 (71, .aload_n 0, 1) (List.mem_of_getElem? (i := 2) rfl)),
  List.forall_mem_cons.mpr ⟨sd_dup 30 72 (dk_30_1 (72, .dup, 1) (List.mem_of_getElem? (i := 3) rfl)),
  List.forall_mem_cons.mpr ⟨sd_oGetI 30 73 5 3 45 RX4 TX4 5 rfl ⟨by decide, by decide⟩ rfl (by decide) rfl (fun w h => iw_30 w (uz_4 w h)) rfl (iw_30 _ zw73) (dk_30_1 (73, .getfield 45, 3) (List.mem_of_getElem? (i := 4) rfl)),
  List.forall_mem_cons.mpr ⟨sd_iconst 30 76 1 ⟨by decide, by decide⟩ (dk_30_1 (76, .iconst 1, 1) (List.mem_of_getElem? (i := 5) rfl)),
  List.forall_mem_cons.mpr ⟨sd_iadd 30 77 (dk_30_1 (77, .iadd, 1) (List.mem_of_getElem? (i := 6) rfl)),
  List.forall_mem_cons.mpr ⟨sd_oPutI 30 78 5 3 45 RX4 TX4 5 rfl ⟨by decide, by decide⟩ rfl (by decide) rfl (fun w h => iw_30 w (uz_4 w h)) rfl tyX4 tyX4_ok nmX4 rfl rfl (iw_30 _ zw73) (dk_30_1 (78, .putfield 45, 3) (List.mem_of_getElem? (i := 7) rfl)),
  List.forall_mem_cons.mpr ⟨sd_iinc 30 81 7 1 (by decide) (dk_30_1 (81, .iinc 7 1, 3) (List.mem_of_getElem? (i := 8) rfl)),
  List.forall_mem_cons.mpr ⟨sd_goto 30 84 (-47) 37 (by decide) (dk_30_1 (84, .goto (-47), 3) (List.mem_of_getElem? (i := 9) rfl)),
  List.forall_mem_cons.mpr ⟨sd_oLdR 30 87 5 (dk_30_1 (87, .aload 5, 2) (List.mem_of_getElem? (i := 10) rfl)),
  List.forall_mem_cons.mpr ⟨sd_oLdI_n 30 89 1 1 rfl (dk_30_1 (89, .iload_n 1, 1) (List.mem_of_getElem? (i := 11) rfl)),
  List.forall_mem_cons.mpr ⟨sd_oLdI_n 30 90 2 2 rfl (dk_30_1 (90, .iload_n 2, 1) (List.mem_of_getElem? (i := 12) rfl)),
  List.forall_mem_cons.mpr ⟨sd_iadd 30 91 (dk_30_1 (91, .iadd, 1) (List.mem_of_getElem? (i := 13) rfl)),
  List.forall_mem_cons.mpr ⟨sd_oLdR 30 92 6 (dk_30_1 (92, .aload 6, 2) (List.mem_of_getElem? (i := 14) rfl)),
  List.forall_mem_cons.mpr ⟨sd_oLdI_n 30 94 1 1 rfl (dk_30_1 (94, .iload_n 1, 1) (List.mem_of_getElem? (i := 15) rfl)),
  List.forall_mem_cons.mpr ⟨sd_oLdI_n 30 95 3 3 rfl (dk_30_1 (95, .iload_n 3, 1) (List.mem_of_getElem? (i := 16) rfl)),
  List.forall_mem_cons.mpr ⟨sd_iadd 30 96 (dk_30_1 (96, .iadd, 1) (List.mem_of_getElem? (i := 17) rfl)),
  List.forall_mem_cons.mpr ⟨sd_oLdR_n 30 97 0 0 rfl (dk_30_1 (97, .aload_n 0, 1) (List.mem_of_getElem? (i := 18) rfl)),
  List.forall_mem_cons.mpr ⟨sd_callV 30 98 23 0 1 27 5 [] (gdV hws_30 hws_23 zw58 zw59 zw60 zw61 zw57) hws_23 rfl (by decide +kernel) rfl rfl ⟨by decide +kernel, by decide +kernel, by decide +kernel⟩ ⟨by decide, by decide⟩ (catch_nil rfl) RX4 rfl TX4 5 rfl ⟨by decide, by decide⟩ (dk_30_1 (98, .invokevirtual 27, 3) (List.mem_of_getElem? (i := 19) rfl)),
  List.forall_mem_cons.mpr ⟨sd_oLdI_n 30 101 1 1 rfl (dk_30_1 (101, .iload_n 1, 1) (List.mem_of_getElem? (i := 20) rfl)),
  List.forall_mem_cons.mpr ⟨sd_isub 30 102 (dk_30_1 (102, .isub, 1) (List.mem_of_getElem? (i := 21) rfl)),
  List.forall_mem_cons.mpr ⟨sd_oLdI_n 30 103 2 2 rfl (dk_30_1 (103, .iload_n 2, 1) (List.mem_of_getElem? (i := 22) rfl)),
  List.forall_mem_cons.mpr ⟨sd_isub 30 104 (dk_30_1 (104, .isub, 1) (List.mem_of_getElem? (i := 23) rfl)),
  List.forall_mem_cons.mpr ⟨sd_cpy 30 105 39 (iw_30 _ zw69) (iw_30 _ zw70) (iw_30 _ zw71) (iw_30 _ zw72) (by decide) (by decide) (dk_30_1 (105, .invokestatic 39, 3) (List.mem_of_getElem? (i := 24) rfl)),
  List.forall_mem_cons.mpr ⟨sd_oLdR_n 30 108 0 0 rfl (dk_30_1 (108, .aload_n 0, 1) (List.mem_of_getElem? (i := 25) rfl)),
  List.forall_mem_cons.mpr ⟨sd_oGetR 30 109 5 1 16 RX4 TX4 5 rfl ⟨by decide, by decide⟩ rfl (by decide) rfl (fun w h => iw_30 w (uz_4 w h)) rfl (iw_30 _ zw54) (dk_30_1 (109, .getfield 16, 3) (List.mem_of_getElem? (i := 26) rfl)),
  List.forall_mem_cons.mpr ⟨sd_oLdR_n 30 112 0 0 rfl (dk_30_1 (112, .aload_n 0, 1) (List.mem_of_getElem? (i := 27) rfl)),
  List.forall_mem_cons.mpr ⟨sd_oGetI 30 113 5 4 23 RX4 TX4 5 rfl ⟨by decide, by decide⟩ rfl (by decide) rfl (fun w h => iw_30 w (uz_4 w h)) rfl (iw_30 _ zw56) (dk_30_1 (113, .getfield 23, 3) (List.mem_of_getElem? (i := 28) rfl)),
  List.forall_mem_cons.mpr ⟨sd_iconst 30 116 1 ⟨by decide, by decide⟩ (dk_30_1 (116, .iconst 1, 1) (List.mem_of_getElem? (i := 29) rfl)),
  List.forall_mem_cons.mpr ⟨sd_iadd 30 117 (dk_30_1 (117, .iadd, 1) (List.mem_of_getElem? (i := 30) rfl)),
  List.forall_mem_cons.mpr ⟨sd_oLdR_n 30 118 0 0 rfl (dk_30_1 (118, .aload_n 0, 1) (List.mem_of_getElem? (i := 31) rfl)),
  List.forall_mem_cons.mpr ⟨sd_callV 30 119 23 0 1 27 5 [] (gdV hws_30 hws_23 zw58 zw59 zw60 zw61 zw57) hws_23 rfl (by decide +kernel) rfl rfl ⟨by decide +kernel, by decide +kernel, by decide +kernel⟩ ⟨by decide, by decide⟩ (catch_nil rfl) RX4 rfl TX4 5 rfl ⟨by decide, by decide⟩ (dk_30_1 (119, .invokevirtual 27, 3) (List.mem_of_getElem? (i := 32) rfl)),
  List.forall_mem_cons.mpr ⟨sd_oLdI_n 30 122 2 2 rfl (dk_30_1 (122, .iload_n 2, 1) (List.mem_of_getElem? (i := 33) rfl)),
  List.forall_mem_cons.mpr ⟨sd_isub 30 123 (dk_30_1 (123, .isub, 1) (List.mem_of_getElem? (i := 34) rfl)),
  List.forall_mem_cons.mpr ⟨sd_oLdI_n 30 124 3 3 rfl (dk_30_1 (124, .iload_n 3, 1) (List.mem_of_getElem? (i := 35) rfl)),
  List.forall_mem_cons.mpr ⟨sd_iadd 30 125 (dk_30_1 (125, .iadd, 1) (List.mem_of_getElem? (i := 36) rfl)),
  List.forall_mem_cons.mpr ⟨sd_iast 30 126 (dk_30_1 (126, .iastore, 1) (List.mem_of_getElem? (i := 37) rfl)),
  List.forall_mem_cons.mpr ⟨sd_oLdR_n 30 127 0 0 rfl (dk_30_1 (127, .aload_n 0, 1) (List.mem_of_getElem? (i := 38) rfl)),
  List.forall_mem_cons.mpr ⟨sd_dup 30 128 (dk_30_1 (128, .dup, 1) (List.mem_of_getElem? (i := 39) rfl)),
  fun _ h => nomatch h⟩⟩⟩⟩⟩⟩⟩⟩⟩⟩⟩⟩⟩⟩⟩⟩⟩⟩⟩⟩⟩⟩⟩⟩⟩⟩⟩⟩⟩⟩⟩⟩⟩⟩⟩⟩⟩⟩⟩⟩
def tb_30_2 : List (Nat × Op1) := [(129, oGetI 5 4), (132, oCI 1 1), (133, oAdd), (134, oPutI 5 4), (137, oRetV)]
theorem sm_30_2 : ∀ q ∈ tb_30_2, SM GwP MdP D A l 30 q.1 q.2 :=
  List.forall_mem_cons.mpr ⟨sd_oGetI 30 129 5 4 23 RX4 TX4 5 rfl ⟨by decide, by decide⟩ rfl (by decide) rfl (fun w h => iw_30 w (uz_4 w h)) rfl (iw_30 _ zw56) (dk_30_2 (129, .getfield 23, 3) (List.mem_of_getElem? (i := 0) rfl)),
  List.forall_mem_cons.mpr ⟨sd_iconst 30 132 1 ⟨by decide, by decide⟩ (dk_30_2 (132, .iconst 1, 1) (List.mem_of_getElem? (i := 1) rfl)),
  List.forall_mem_cons.mpr ⟨sd_iadd 30 133 (dk_30_2 (133, .iadd, 1) (List.mem_of_getElem? (i := 2) rfl)),
  List.forall_mem_cons.mpr ⟨sd_oPutI 30 134 5 4 23 RX4 TX4 5 rfl ⟨by decide, by decide⟩ rfl (by decide) rfl (fun w h => iw_30 w (uz_4 w h)) rfl tyX4 tyX4_ok nmX4 rfl rfl (iw_30 _ zw56) (dk_30_2 (134, .putfield 23, 3) (List.mem_of_getElem? (i := 3) rfl)),
  List.forall_mem_cons.mpr ⟨sd_vret 30 137 rfl (dk_30_2 (137, .return_, 1) (List.mem_of_getElem? (i := 4) rfl)),
  fun _ h => nomatch h⟩⟩⟩⟩⟩
def tb_30 : List (Nat × Op1) := tb_30_0 ++ (tb_30_1 ++ (tb_30_2))
theorem sm_30 : ∀ q ∈ tb_30, SM GwP MdP D A l 30 q.1 q.2 := List.forall_mem_append.mpr ⟨sm_30_0, List.forall_mem_append.mpr ⟨sm_30_1, sm_30_2⟩⟩
end
end

section
-- ===== PART A: goes FIRST, ahead of the names: the tables' words, and 'selects' of the private methods out of them =====
/-- a private method of a class that the tables say can be made, by its rows of tables_1 -/
def lw_okq (q : MethodName × Nat) : Prop := (q.1.cls ≠ "java/lang/invoke/MethodHandle" ∧ q.1.cls ≠ "java/lang/invoke/VarHandle") ∧ Cond.instantiable q.1.cls q.2 ∈ tables_1 ∧ Cond.privateMethod q.1 ∈ tables_1 ∧ Cond.instanceMethod q.1 ∈ tables_1
theorem lw_p0 : lw_okq (⟨"StepStore", "refuse", "(I)I"⟩, 16) := ⟨⟨by decide +kernel, by decide +kernel⟩, List.mem_of_getElem? (i := 15) (by decide +kernel), List.mem_of_getElem? (i := 356) (by decide +kernel), List.mem_of_getElem? (i := 357) (by decide +kernel)⟩
theorem lw_p1 : lw_okq (⟨"StepStore", "takeAwayPackedOf", "(I)V"⟩, 16) := ⟨⟨by decide +kernel, by decide +kernel⟩, List.mem_of_getElem? (i := 15) (by decide +kernel), List.mem_of_getElem? (i := 438) (by decide +kernel), List.mem_of_getElem? (i := 439) (by decide +kernel)⟩
theorem lw_p2 : lw_okq (⟨"StepStore", "hasAct", "(II)Z"⟩, 16) := ⟨⟨by decide +kernel, by decide +kernel⟩, List.mem_of_getElem? (i := 15) (by decide +kernel), List.mem_of_getElem? (i := 450) (by decide +kernel), List.mem_of_getElem? (i := 451) (by decide +kernel)⟩
theorem lw_p3 : lw_okq (⟨"StepStore$Search", "learnParts", "(II)V"⟩, 10) := ⟨⟨by decide +kernel, by decide +kernel⟩, List.mem_of_getElem? (i := 98) (by decide +kernel), List.mem_of_getElem? (i := 492) (by decide +kernel), List.mem_of_getElem? (i := 493) (by decide +kernel)⟩
theorem lw_p4 : lw_okq (⟨"StepStore$Search", "learnNeeds", "(I)V"⟩, 10) := ⟨⟨by decide +kernel, by decide +kernel⟩, List.mem_of_getElem? (i := 98) (by decide +kernel), List.mem_of_getElem? (i := 499) (by decide +kernel), List.mem_of_getElem? (i := 500) (by decide +kernel)⟩
theorem lw_p5 : lw_okq (⟨"StepStore$Search", "areTooMany", "(II)Z"⟩, 10) := ⟨⟨by decide +kernel, by decide +kernel⟩, List.mem_of_getElem? (i := 98) (by decide +kernel), List.mem_of_getElem? (i := 510) (by decide +kernel), List.mem_of_getElem? (i := 511) (by decide +kernel)⟩
theorem lw_p6 : lw_okq (⟨"StepStore$Search", "readyAfter", "(I)I"⟩, 10) := ⟨⟨by decide +kernel, by decide +kernel⟩, List.mem_of_getElem? (i := 98) (by decide +kernel), List.mem_of_getElem? (i := 523) (by decide +kernel), List.mem_of_getElem? (i := 524) (by decide +kernel)⟩
theorem lw_p7 : lw_okq (⟨"StepStore$Search", "urgentOf", "(II)I"⟩, 10) := ⟨⟨by decide +kernel, by decide +kernel⟩, List.mem_of_getElem? (i := 98) (by decide +kernel), List.mem_of_getElem? (i := 527) (by decide +kernel), List.mem_of_getElem? (i := 528) (by decide +kernel)⟩
theorem lw_p8 : lw_okq (⟨"StepStore$Search", "canMeet", "(III)Z"⟩, 10) := ⟨⟨by decide +kernel, by decide +kernel⟩, List.mem_of_getElem? (i := 98) (by decide +kernel), List.mem_of_getElem? (i := 531) (by decide +kernel), List.mem_of_getElem? (i := 532) (by decide +kernel)⟩
theorem lw_p9 : lw_okq (⟨"StepStore$Places", "findOrAdd", "(III)I"⟩, 9) := ⟨⟨by decide +kernel, by decide +kernel⟩, List.mem_of_getElem? (i := 168) (by decide +kernel), List.mem_of_getElem? (i := 559) (by decide +kernel), List.mem_of_getElem? (i := 560) (by decide +kernel)⟩
theorem lw_p10 : lw_okq (⟨"StepStore$Places", "hasSameActs", "(III)Z"⟩, 9) := ⟨⟨by decide +kernel, by decide +kernel⟩, List.mem_of_getElem? (i := 168) (by decide +kernel), List.mem_of_getElem? (i := 563) (by decide +kernel), List.mem_of_getElem? (i := 564) (by decide +kernel)⟩
theorem lw_p11 : lw_okq (⟨"StepStore$Fields", "learnActs", "(II)I"⟩, 12) := ⟨⟨by decide +kernel, by decide +kernel⟩, List.mem_of_getElem? (i := 211) (by decide +kernel), List.mem_of_getElem? (i := 581) (by decide +kernel), List.mem_of_getElem? (i := 582) (by decide +kernel)⟩
theorem lw_p12 : lw_okq (⟨"StepStore$Fields", "addIfNew", "(II)V"⟩, 12) := ⟨⟨by decide +kernel, by decide +kernel⟩, List.mem_of_getElem? (i := 211) (by decide +kernel), List.mem_of_getElem? (i := 588) (by decide +kernel), List.mem_of_getElem? (i := 589) (by decide +kernel)⟩
theorem lw_p13 : lw_okq (⟨"StepStore$Fields", "learnMeetings", "(I)V"⟩, 12) := ⟨⟨by decide +kernel, by decide +kernel⟩, List.mem_of_getElem? (i := 211) (by decide +kernel), List.mem_of_getElem? (i := 593) (by decide +kernel), List.mem_of_getElem? (i := 594) (by decide +kernel)⟩
theorem lw_p14 : lw_okq (⟨"StepStore$Fields", "makeGroups", "()V"⟩, 12) := ⟨⟨by decide +kernel, by decide +kernel⟩, List.mem_of_getElem? (i := 211) (by decide +kernel), List.mem_of_getElem? (i := 597) (by decide +kernel), List.mem_of_getElem? (i := 598) (by decide +kernel)⟩
theorem lw_p15 : lw_okq (⟨"StepStore$Fields", "firstGroupFor", "(I)I"⟩, 12) := ⟨⟨by decide +kernel, by decide +kernel⟩, List.mem_of_getElem? (i := 211) (by decide +kernel), List.mem_of_getElem? (i := 601) (by decide +kernel), List.mem_of_getElem? (i := 602) (by decide +kernel)⟩
def lw_privs_1 : List (MethodName × Nat) := [(⟨"StepStore", "refuse", "(I)I"⟩, 16), (⟨"StepStore", "takeAwayPackedOf", "(I)V"⟩, 16), (⟨"StepStore", "hasAct", "(II)Z"⟩, 16), (⟨"StepStore$Search", "learnParts", "(II)V"⟩, 10), (⟨"StepStore$Search", "learnNeeds", "(I)V"⟩, 10), (⟨"StepStore$Search", "areTooMany", "(II)Z"⟩, 10), (⟨"StepStore$Search", "readyAfter", "(I)I"⟩, 10), (⟨"StepStore$Search", "urgentOf", "(II)I"⟩, 10), (⟨"StepStore$Search", "canMeet", "(III)Z"⟩, 10), (⟨"StepStore$Places", "findOrAdd", "(III)I"⟩, 9), (⟨"StepStore$Places", "hasSameActs", "(III)Z"⟩, 9), (⟨"StepStore$Fields", "learnActs", "(II)I"⟩, 12), (⟨"StepStore$Fields", "addIfNew", "(II)V"⟩, 12), (⟨"StepStore$Fields", "learnMeetings", "(I)V"⟩, 12), (⟨"StepStore$Fields", "makeGroups", "()V"⟩, 12), (⟨"StepStore$Fields", "firstGroupFor", "(I)I"⟩, 12)]
theorem lw_r1 : ∀ q ∈ lw_privs_1, lw_okq q := List.forall_mem_cons.mpr ⟨lw_p0, List.forall_mem_cons.mpr ⟨lw_p1, List.forall_mem_cons.mpr ⟨lw_p2, List.forall_mem_cons.mpr ⟨lw_p3, List.forall_mem_cons.mpr ⟨lw_p4, List.forall_mem_cons.mpr ⟨lw_p5, List.forall_mem_cons.mpr ⟨lw_p6, List.forall_mem_cons.mpr ⟨lw_p7, List.forall_mem_cons.mpr ⟨lw_p8, List.forall_mem_cons.mpr ⟨lw_p9, List.forall_mem_cons.mpr ⟨lw_p10, List.forall_mem_cons.mpr ⟨lw_p11, List.forall_mem_cons.mpr ⟨lw_p12, List.forall_mem_cons.mpr ⟨lw_p13, List.forall_mem_cons.mpr ⟨lw_p14, List.forall_mem_cons.mpr ⟨lw_p15, fun _ h => absurd h List.not_mem_nil⟩⟩⟩⟩⟩⟩⟩⟩⟩⟩⟩⟩⟩⟩⟩⟩
theorem lw_p16 : lw_okq (⟨"StepStore$Doer", "doTogether", "(II)I"⟩, 10) := ⟨⟨by decide +kernel, by decide +kernel⟩, List.mem_of_getElem? (i := 258) (by decide +kernel), List.mem_of_getElem? (i := 639) (by decide +kernel), List.mem_of_getElem? (i := 640) (by decide +kernel)⟩
theorem lw_p17 : lw_okq (⟨"StepStore$Doer", "take", "(I)I"⟩, 10) := ⟨⟨by decide +kernel, by decide +kernel⟩, List.mem_of_getElem? (i := 258) (by decide +kernel), List.mem_of_getElem? (i := 644) (by decide +kernel), List.mem_of_getElem? (i := 645) (by decide +kernel)⟩
theorem lw_p18 : lw_okq (⟨"StepStore$Doer", "putLater", "(IJ)V"⟩, 10) := ⟨⟨by decide +kernel, by decide +kernel⟩, List.mem_of_getElem? (i := 258) (by decide +kernel), List.mem_of_getElem? (i := 648) (by decide +kernel), List.mem_of_getElem? (i := 649) (by decide +kernel)⟩
theorem lw_p19 : lw_okq (⟨"StepStore$Doer", "fetch", "(IJ)I"⟩, 10) := ⟨⟨by decide +kernel, by decide +kernel⟩, List.mem_of_getElem? (i := 258) (by decide +kernel), List.mem_of_getElem? (i := 652) (by decide +kernel), List.mem_of_getElem? (i := 653) (by decide +kernel)⟩
theorem lw_p20 : lw_okq (⟨"StepStore$Doer", "keep", "(JJ)I"⟩, 10) := ⟨⟨by decide +kernel, by decide +kernel⟩, List.mem_of_getElem? (i := 258) (by decide +kernel), List.mem_of_getElem? (i := 657) (by decide +kernel), List.mem_of_getElem? (i := 658) (by decide +kernel)⟩
theorem lw_p21 : lw_okq (⟨"StepStore$Doer", "work", "(IIJJ)V"⟩, 10) := ⟨⟨by decide +kernel, by decide +kernel⟩, List.mem_of_getElem? (i := 258) (by decide +kernel), List.mem_of_getElem? (i := 661) (by decide +kernel), List.mem_of_getElem? (i := 662) (by decide +kernel)⟩
theorem lw_p22 : lw_okq (⟨"StepStore", "keepTold", "()V"⟩, 16) := ⟨⟨by decide +kernel, by decide +kernel⟩, List.mem_of_getElem? (i := 15) (by decide +kernel), List.mem_of_getElem? (i := 676) (by decide +kernel), List.mem_of_getElem? (i := 677) (by decide +kernel)⟩
theorem lw_p23 : lw_okq (⟨"StepStore$Doer", "isOtherEnd", "()Z"⟩, 10) := ⟨⟨by decide +kernel, by decide +kernel⟩, List.mem_of_getElem? (i := 258) (by decide +kernel), List.mem_of_getElem? (i := 696) (by decide +kernel), List.mem_of_getElem? (i := 697) (by decide +kernel)⟩
theorem lw_p24 : lw_okq (⟨"StepStore", "doStep", "()I"⟩, 16) := ⟨⟨by decide +kernel, by decide +kernel⟩, List.mem_of_getElem? (i := 15) (by decide +kernel), List.mem_of_getElem? (i := 708) (by decide +kernel), List.mem_of_getElem? (i := 709) (by decide +kernel)⟩
theorem lw_p25 : lw_okq (⟨"StepStoreModel", "no", "(I)I"⟩, 44) := ⟨⟨by decide +kernel, by decide +kernel⟩, List.mem_of_getElem? (i := 746) (by decide +kernel), List.mem_of_getElem? (i := 892) (by decide +kernel), List.mem_of_getElem? (i := 893) (by decide +kernel)⟩
theorem lw_p26 : lw_okq (⟨"StepStoreModel", "cut", "(IJ)J"⟩, 44) := ⟨⟨by decide +kernel, by decide +kernel⟩, List.mem_of_getElem? (i := 746) (by decide +kernel), List.mem_of_getElem? (i := 900) (by decide +kernel), List.mem_of_getElem? (i := 901) (by decide +kernel)⟩
theorem lw_p27 : lw_okq (⟨"StepStoreModel", "isAct", "(II)Z"⟩, 44) := ⟨⟨by decide +kernel, by decide +kernel⟩, List.mem_of_getElem? (i := 746) (by decide +kernel), List.mem_of_getElem? (i := 961) (by decide +kernel), List.mem_of_getElem? (i := 962) (by decide +kernel)⟩
theorem lw_p28 : lw_okq (⟨"StepStoreModel", "needed", "(II)I"⟩, 44) := ⟨⟨by decide +kernel, by decide +kernel⟩, List.mem_of_getElem? (i := 746) (by decide +kernel), List.mem_of_getElem? (i := 980) (by decide +kernel), List.mem_of_getElem? (i := 981) (by decide +kernel)⟩
theorem lw_p29 : lw_okq (⟨"StepStoreModel", "writes", "(I)I"⟩, 44) := ⟨⟨by decide +kernel, by decide +kernel⟩, List.mem_of_getElem? (i := 746) (by decide +kernel), List.mem_of_getElem? (i := 984) (by decide +kernel), List.mem_of_getElem? (i := 985) (by decide +kernel)⟩
theorem lw_p30 : lw_okq (⟨"StepStoreModel", "reads", "(I)I"⟩, 44) := ⟨⟨by decide +kernel, by decide +kernel⟩, List.mem_of_getElem? (i := 746) (by decide +kernel), List.mem_of_getElem? (i := 988) (by decide +kernel), List.mem_of_getElem? (i := 989) (by decide +kernel)⟩
theorem lw_p31 : lw_okq (⟨"StepStoreModel", "packs", "(I)V"⟩, 44) := ⟨⟨by decide +kernel, by decide +kernel⟩, List.mem_of_getElem? (i := 746) (by decide +kernel), List.mem_of_getElem? (i := 996) (by decide +kernel), List.mem_of_getElem? (i := 997) (by decide +kernel)⟩
def lw_privs_2 : List (MethodName × Nat) := [(⟨"StepStore$Doer", "doTogether", "(II)I"⟩, 10), (⟨"StepStore$Doer", "take", "(I)I"⟩, 10), (⟨"StepStore$Doer", "putLater", "(IJ)V"⟩, 10), (⟨"StepStore$Doer", "fetch", "(IJ)I"⟩, 10), (⟨"StepStore$Doer", "keep", "(JJ)I"⟩, 10), (⟨"StepStore$Doer", "work", "(IIJJ)V"⟩, 10), (⟨"StepStore", "keepTold", "()V"⟩, 16), (⟨"StepStore$Doer", "isOtherEnd", "()Z"⟩, 10), (⟨"StepStore", "doStep", "()I"⟩, 16), (⟨"StepStoreModel", "no", "(I)I"⟩, 44), (⟨"StepStoreModel", "cut", "(IJ)J"⟩, 44), (⟨"StepStoreModel", "isAct", "(II)Z"⟩, 44), (⟨"StepStoreModel", "needed", "(II)I"⟩, 44), (⟨"StepStoreModel", "writes", "(I)I"⟩, 44), (⟨"StepStoreModel", "reads", "(I)I"⟩, 44), (⟨"StepStoreModel", "packs", "(I)V"⟩, 44)]
theorem lw_r2 : ∀ q ∈ lw_privs_2, lw_okq q := List.forall_mem_cons.mpr ⟨lw_p16, List.forall_mem_cons.mpr ⟨lw_p17, List.forall_mem_cons.mpr ⟨lw_p18, List.forall_mem_cons.mpr ⟨lw_p19, List.forall_mem_cons.mpr ⟨lw_p20, List.forall_mem_cons.mpr ⟨lw_p21, List.forall_mem_cons.mpr ⟨lw_p22, List.forall_mem_cons.mpr ⟨lw_p23, List.forall_mem_cons.mpr ⟨lw_p24, List.forall_mem_cons.mpr ⟨lw_p25, List.forall_mem_cons.mpr ⟨lw_p26, List.forall_mem_cons.mpr ⟨lw_p27, List.forall_mem_cons.mpr ⟨lw_p28, List.forall_mem_cons.mpr ⟨lw_p29, List.forall_mem_cons.mpr ⟨lw_p30, List.forall_mem_cons.mpr ⟨lw_p31, fun _ h => absurd h List.not_mem_nil⟩⟩⟩⟩⟩⟩⟩⟩⟩⟩⟩⟩⟩⟩⟩⟩
theorem lw_p32 : lw_okq (⟨"StepStoreModel", "isWord", "(III)Z"⟩, 44) := ⟨⟨by decide +kernel, by decide +kernel⟩, List.mem_of_getElem? (i := 746) (by decide +kernel), List.mem_of_getElem? (i := 1000) (by decide +kernel), List.mem_of_getElem? (i := 1001) (by decide +kernel)⟩
theorem lw_p33 : lw_okq (⟨"StepStoreModel", "lays", "(III)I"⟩, 44) := ⟨⟨by decide +kernel, by decide +kernel⟩, List.mem_of_getElem? (i := 746) (by decide +kernel), List.mem_of_getElem? (i := 1016) (by decide +kernel), List.mem_of_getElem? (i := 1017) (by decide +kernel)⟩
theorem lw_p34 : lw_okq (⟨"StepStoreModel", "isLike", "(III)Z"⟩, 44) := ⟨⟨by decide +kernel, by decide +kernel⟩, List.mem_of_getElem? (i := 746) (by decide +kernel), List.mem_of_getElem? (i := 1020) (by decide +kernel), List.mem_of_getElem? (i := 1021) (by decide +kernel)⟩
theorem lw_p35 : lw_okq (⟨"StepStoreModel", "actOf", "(III)I"⟩, 44) := ⟨⟨by decide +kernel, by decide +kernel⟩, List.mem_of_getElem? (i := 746) (by decide +kernel), List.mem_of_getElem? (i := 1024) (by decide +kernel), List.mem_of_getElem? (i := 1025) (by decide +kernel)⟩
theorem lw_p36 : lw_okq (⟨"StepStoreModel", "areSame", "(II)Z"⟩, 44) := ⟨⟨by decide +kernel, by decide +kernel⟩, List.mem_of_getElem? (i := 746) (by decide +kernel), List.mem_of_getElem? (i := 1028) (by decide +kernel), List.mem_of_getElem? (i := 1029) (by decide +kernel)⟩
theorem lw_p37 : lw_okq (⟨"StepStoreModel", "findFields", "()V"⟩, 44) := ⟨⟨by decide +kernel, by decide +kernel⟩, List.mem_of_getElem? (i := 746) (by decide +kernel), List.mem_of_getElem? (i := 1032) (by decide +kernel), List.mem_of_getElem? (i := 1033) (by decide +kernel)⟩
theorem lw_p38 : lw_okq (⟨"StepStoreModel", "actsAt", "(I)I"⟩, 44) := ⟨⟨by decide +kernel, by decide +kernel⟩, List.mem_of_getElem? (i := 746) (by decide +kernel), List.mem_of_getElem? (i := 1036) (by decide +kernel), List.mem_of_getElem? (i := 1037) (by decide +kernel)⟩
theorem lw_p39 : lw_okq (⟨"StepStoreModel", "isNew", "(II)Z"⟩, 44) := ⟨⟨by decide +kernel, by decide +kernel⟩, List.mem_of_getElem? (i := 746) (by decide +kernel), List.mem_of_getElem? (i := 1040) (by decide +kernel), List.mem_of_getElem? (i := 1041) (by decide +kernel)⟩
theorem lw_p40 : lw_okq (⟨"StepStoreModel", "findGroups", "()V"⟩, 44) := ⟨⟨by decide +kernel, by decide +kernel⟩, List.mem_of_getElem? (i := 746) (by decide +kernel), List.mem_of_getElem? (i := 1044) (by decide +kernel), List.mem_of_getElem? (i := 1045) (by decide +kernel)⟩
theorem lw_p41 : lw_okq (⟨"StepStoreModel", "isMet", "(II)Z"⟩, 44) := ⟨⟨by decide +kernel, by decide +kernel⟩, List.mem_of_getElem? (i := 746) (by decide +kernel), List.mem_of_getElem? (i := 1048) (by decide +kernel), List.mem_of_getElem? (i := 1049) (by decide +kernel)⟩
theorem lw_p42 : lw_okq (⟨"StepStoreModel", "byWords", "(I)I"⟩, 44) := ⟨⟨by decide +kernel, by decide +kernel⟩, List.mem_of_getElem? (i := 746) (by decide +kernel), List.mem_of_getElem? (i := 1076) (by decide +kernel), List.mem_of_getElem? (i := 1077) (by decide +kernel)⟩
theorem lw_p43 : lw_okq (⟨"StepStoreModel", "holds", "(I)Z"⟩, 44) := ⟨⟨by decide +kernel, by decide +kernel⟩, List.mem_of_getElem? (i := 746) (by decide +kernel), List.mem_of_getElem? (i := 1083) (by decide +kernel), List.mem_of_getElem? (i := 1084) (by decide +kernel)⟩
theorem lw_p44 : lw_okq (⟨"StepStoreModel", "does", "(I)V"⟩, 44) := ⟨⟨by decide +kernel, by decide +kernel⟩, List.mem_of_getElem? (i := 746) (by decide +kernel), List.mem_of_getElem? (i := 1088) (by decide +kernel), List.mem_of_getElem? (i := 1089) (by decide +kernel)⟩
theorem lw_p45 : lw_okq (⟨"StepStoreModel", "puts", "(IJ)V"⟩, 44) := ⟨⟨by decide +kernel, by decide +kernel⟩, List.mem_of_getElem? (i := 746) (by decide +kernel), List.mem_of_getElem? (i := 1092) (by decide +kernel), List.mem_of_getElem? (i := 1093) (by decide +kernel)⟩
theorem lw_p46 : lw_okq (⟨"StepStoreModel", "worker", "(I)V"⟩, 44) := ⟨⟨by decide +kernel, by decide +kernel⟩, List.mem_of_getElem? (i := 746) (by decide +kernel), List.mem_of_getElem? (i := 1096) (by decide +kernel), List.mem_of_getElem? (i := 1097) (by decide +kernel)⟩
theorem lw_p47 : lw_okq (⟨"StepStoreModel", "plainly", "(I)I"⟩, 44) := ⟨⟨by decide +kernel, by decide +kernel⟩, List.mem_of_getElem? (i := 746) (by decide +kernel), List.mem_of_getElem? (i := 1100) (by decide +kernel), List.mem_of_getElem? (i := 1101) (by decide +kernel)⟩
def lw_privs_3 : List (MethodName × Nat) := [(⟨"StepStoreModel", "isWord", "(III)Z"⟩, 44), (⟨"StepStoreModel", "lays", "(III)I"⟩, 44), (⟨"StepStoreModel", "isLike", "(III)Z"⟩, 44), (⟨"StepStoreModel", "actOf", "(III)I"⟩, 44), (⟨"StepStoreModel", "areSame", "(II)Z"⟩, 44), (⟨"StepStoreModel", "findFields", "()V"⟩, 44), (⟨"StepStoreModel", "actsAt", "(I)I"⟩, 44), (⟨"StepStoreModel", "isNew", "(II)Z"⟩, 44), (⟨"StepStoreModel", "findGroups", "()V"⟩, 44), (⟨"StepStoreModel", "isMet", "(II)Z"⟩, 44), (⟨"StepStoreModel", "byWords", "(I)I"⟩, 44), (⟨"StepStoreModel", "holds", "(I)Z"⟩, 44), (⟨"StepStoreModel", "does", "(I)V"⟩, 44), (⟨"StepStoreModel", "puts", "(IJ)V"⟩, 44), (⟨"StepStoreModel", "worker", "(I)V"⟩, 44), (⟨"StepStoreModel", "plainly", "(I)I"⟩, 44)]
theorem lw_r3 : ∀ q ∈ lw_privs_3, lw_okq q := List.forall_mem_cons.mpr ⟨lw_p32, List.forall_mem_cons.mpr ⟨lw_p33, List.forall_mem_cons.mpr ⟨lw_p34, List.forall_mem_cons.mpr ⟨lw_p35, List.forall_mem_cons.mpr ⟨lw_p36, List.forall_mem_cons.mpr ⟨lw_p37, List.forall_mem_cons.mpr ⟨lw_p38, List.forall_mem_cons.mpr ⟨lw_p39, List.forall_mem_cons.mpr ⟨lw_p40, List.forall_mem_cons.mpr ⟨lw_p41, List.forall_mem_cons.mpr ⟨lw_p42, List.forall_mem_cons.mpr ⟨lw_p43, List.forall_mem_cons.mpr ⟨lw_p44, List.forall_mem_cons.mpr ⟨lw_p45, List.forall_mem_cons.mpr ⟨lw_p46, List.forall_mem_cons.mpr ⟨lw_p47, fun _ h => absurd h List.not_mem_nil⟩⟩⟩⟩⟩⟩⟩⟩⟩⟩⟩⟩⟩⟩⟩⟩
def lw_privs : List (MethodName × Nat) := lw_privs_1 ++ (lw_privs_2 ++ (lw_privs_3))
def lw_tbl : List Cond := k2_sels lw_privs ++ tables_1
theorem lw_privs_ok : ∀ q ∈ lw_privs, lw_okq q := by
  show ∀ q ∈ lw_privs_1 ++ (lw_privs_2 ++ (lw_privs_3)), lw_okq q
  exact List.forall_mem_append.mpr ⟨lw_r1, List.forall_mem_append.mpr ⟨lw_r2, lw_r3⟩⟩
-- ===== end of PART A; then your names; then what follows =====
/-! ===== BEGIN words of one list among another's, by their places ===== -/
theorem goodIn_r {big : List Cond} (ws : List Cond) (ps : List Nat) (hp : ws = ps.filterMap (fun i => big[i]?)) (h : ws.all goodWord = true) : GoodIn big ws := by
  intro w hw
  have h1 := List.all_eq_true.mp h w hw
  rw [hp] at hw
  obtain ⟨i, -, hi⟩ := List.mem_filterMap.mp hw
  have hm : w ∈ big := by first | exact List.mem_of_getElem? hi | exact List.getElem?_mem hi
  exact ⟨hm, good_of_word h1⟩
theorem goodIn_app {big a b : List Cond} (ha : GoodIn big a) (hb : GoodIn big b) : GoodIn big (a ++ b) := fun w h => (List.mem_append.mp h).elim (ha w) (hb w)
theorem goodIn_ca {big a b : List Cond} {c : Cond} (ha : GoodIn big (c :: a)) (hb : GoodIn big b) : GoodIn big (c :: (a ++ b)) := fun w h => (List.mem_cons.mp h).elim (fun e => ha w (List.mem_cons.mpr (Or.inl e))) (fun h => (List.mem_append.mp h).elim (fun h => ha w (List.mem_cons.mpr (Or.inr h))) (hb w))
theorem goodIn_sub {big ws : List Cond} (hm : ∀ w ∈ ws, w ∈ big) (h : ws.all goodWord = true) : GoodIn big ws := fun w hw => ⟨hm w hw, good_of_word (List.all_eq_true.mp h w hw)⟩
/-! ===== END ===== -/

/-! ===== BEGIN printed: names, fields, word lists, decode rows ===== -/
def RX0 : String := "StepStore$Doer"
def TX0 : u_T := fun k => match k with
  | 0 => ("StepStore$Doer", "actsDone", "I", false)
  | 1 => ("StepStore$Doer", "wordsDone", "I", false)
  | 2 => ("StepStore$Doer", "trapped", "I", false)
  | 3 => ("StepStore$Doer", "inside", "LStepStore$Inside;", true)
  | 4 => ("StepStore$Doer", "rows", "LStepStore$Rows;", true)
  | 5 => ("StepStore$Doer", "packing", "LStepStore$Packing;", true)
  | 6 => ("StepStore$Doer", "waitingPlaces", "[I", true)
  | 7 => ("StepStore$Doer", "waitingNumbers", "[J", true)
  | 8 => ("StepStore$Doer", "waiting", "I", false)
  | _ => ("StepStore$Doer", "otherEnd", "[J", true)
def tyX0 : Nat → FieldType := fun k => match k with
  | 0 => .int
  | 1 => .int
  | 2 => .int
  | 3 => .object "StepStore$Inside"
  | 4 => .object "StepStore$Rows"
  | 5 => .object "StepStore$Packing"
  | 6 => .array .int
  | 7 => .array .long
  | 8 => .int
  | _ => .array .long
abbrev wsX00 : List Cond := u_ws RX0 TX0 10
theorem nmX0 : ∀ a, a < 10 → ∀ b, b < 10 → a ≠ b → (TX0 a).2.1 ≠ (TX0 b).2.1 := by decide +kernel
theorem tyX0_ok : ∀ k, k < 10 → parseFieldDescriptor (TX0 k).2.2.1 = some (tyX0 k) := by decide +kernel
abbrev cX0_init : ByteArray := prog_2_method_1_code
def yX0_init : MethodName := ⟨RX0, "<init>", "(LStepStore$Inside;LStepStore$Rows;LStepStore$Packing;)V"⟩
abbrev cX0_perform : ByteArray := prog_2_method_2_code
def yX0_perform : MethodName := ⟨RX0, "perform", "(IZ)I"⟩
abbrev cX0_endsAlike : ByteArray := prog_2_method_3_code
def yX0_endsAlike : MethodName := ⟨RX0, "endsAlike", "(I)Z"⟩
abbrev cX0_isOtherEnd : ByteArray := prog_2_method_4_code
def yX0_isOtherEnd : MethodName := ⟨RX0, "isOtherEnd", "()Z"⟩
abbrev cX0_doTogether : ByteArray := prog_2_method_5_code
def yX0_doTogether : MethodName := ⟨RX0, "doTogether", "(II)I"⟩
abbrev cX0_take : ByteArray := prog_2_method_6_code
def yX0_take : MethodName := ⟨RX0, "take", "(I)I"⟩
abbrev cX0_fetch : ByteArray := prog_2_method_7_code
def yX0_fetch : MethodName := ⟨RX0, "fetch", "(IJ)I"⟩
abbrev cX0_keep : ByteArray := prog_2_method_8_code
def yX0_keep : MethodName := ⟨RX0, "keep", "(JJ)I"⟩
abbrev cX0_work : ByteArray := prog_2_method_9_code
def yX0_work : MethodName := ⟨RX0, "work", "(IIJJ)V"⟩
abbrev cX0_putLater : ByteArray := prog_2_method_10_code
def yX0_putLater : MethodName := ⟨RX0, "putLater", "(IJ)V"⟩
def RX1 : String := "StepStore$Fields"
def TX1 : u_T := fun k => match k with
  | 0 => ("StepStore$Fields", "groupOf", "[I", true)
  | 1 => ("StepStore$Fields", "groups", "I", false)
  | 2 => ("StepStore$Fields", "wordBits", "I", false)
  | 3 => ("StepStore$Fields", "seen", "I", false)
  | 4 => ("StepStore$Fields", "seenSlots", "[I", true)
  | 5 => ("StepStore$Fields", "seenFields", "[I", true)
  | 6 => ("StepStore$Fields", "different", "[I", true)
  | 7 => ("StepStore$Fields", "meets", "[I", true)
  | 8 => ("StepStore$Fields", "fieldsOfGroup", "[I", true)
  | 9 => ("StepStore$Fields", "actsOfGroup", "[I", true)
  | 10 => ("StepStore$Fields", "rows", "LStepStore$Rows;", true)
  | _ => ("StepStore$Fields", "places", "LStepStore$Places;", true)
def tyX1 : Nat → FieldType := fun k => match k with
  | 0 => .array .int
  | 1 => .int
  | 2 => .int
  | 3 => .int
  | 4 => .array .int
  | 5 => .array .int
  | 6 => .array .int
  | 7 => .array .int
  | 8 => .array .int
  | 9 => .array .int
  | 10 => .object "StepStore$Rows"
  | _ => .object "StepStore$Places"
abbrev wsX10 : List Cond := u_ws RX1 TX1 12
theorem nmX1 : ∀ a, a < 12 → ∀ b, b < 12 → a ≠ b → (TX1 a).2.1 ≠ (TX1 b).2.1 := by decide +kernel
theorem tyX1_ok : ∀ k, k < 12 → parseFieldDescriptor (TX1 k).2.2.1 = some (tyX1 k) := by decide +kernel
abbrev cX1_init : ByteArray := prog_3_method_1_code
def yX1_init : MethodName := ⟨RX1, "<init>", "(LStepStore$Rows;LStepStore$Places;)V"⟩
abbrev cX1_make : ByteArray := prog_3_method_2_code
def yX1_make : MethodName := ⟨RX1, "make", "()V"⟩
abbrev cX1_learnActs : ByteArray := prog_3_method_3_code
def yX1_learnActs : MethodName := ⟨RX1, "learnActs", "(II)I"⟩
abbrev cX1_addIfNew : ByteArray := prog_3_method_4_code
def yX1_addIfNew : MethodName := ⟨RX1, "addIfNew", "(II)V"⟩
abbrev cX1_learnMeetings : ByteArray := prog_3_method_5_code
def yX1_learnMeetings : MethodName := ⟨RX1, "learnMeetings", "(I)V"⟩
abbrev cX1_makeGroups : ByteArray := prog_3_method_6_code
def yX1_makeGroups : MethodName := ⟨RX1, "makeGroups", "()V"⟩
abbrev cX1_firstGroupFor : ByteArray := prog_3_method_7_code
def yX1_firstGroupFor : MethodName := ⟨RX1, "firstGroupFor", "(I)I"⟩
abbrev cX1_bitsToTell : ByteArray := prog_3_method_8_code
def yX1_bitsToTell : MethodName := ⟨RX1, "bitsToTell", "(I)I"⟩
def RX2 : String := "StepStore$Inside"
def TX2 : u_T := fun k => match k with
  | 0 => ("StepStore$Inside", "widths", "[I", true)
  | 1 => ("StepStore$Inside", "numbers", "[J", true)
  | 2 => ("StepStore$Inside", "oldPlaces", "[I", true)
  | 3 => ("StepStore$Inside", "oldNumbers", "[J", true)
  | _ => ("StepStore$Inside", "olds", "I", false)
def tyX2 : Nat → FieldType := fun k => match k with
  | 0 => .array .int
  | 1 => .array .long
  | 2 => .array .int
  | 3 => .array .long
  | _ => .int
abbrev wsX20 : List Cond := u_ws RX2 TX2 5
theorem nmX2 : ∀ a, a < 5 → ∀ b, b < 5 → a ≠ b → (TX2 a).2.1 ≠ (TX2 b).2.1 := by decide +kernel
theorem tyX2_ok : ∀ k, k < 5 → parseFieldDescriptor (TX2 k).2.2.1 = some (tyX2 k) := by decide +kernel
abbrev cX2_init : ByteArray := prog_4_method_1_code
def yX2_init : MethodName := ⟨RX2, "<init>", "()V"⟩
abbrev cX2_cutFor : ByteArray := prog_4_method_2_code
def yX2_cutFor : MethodName := ⟨RX2, "cutFor", "(IJ)J"⟩
abbrev cX2_put : ByteArray := prog_4_method_3_code
def yX2_put : MethodName := ⟨RX2, "put", "(IJ)I"⟩
abbrev cX2_forgetOlds : ByteArray := prog_4_method_4_code
def yX2_forgetOlds : MethodName := ⟨RX2, "forgetOlds", "()V"⟩
abbrev cX2_putAndRemember : ByteArray := prog_4_method_5_code
def yX2_putAndRemember : MethodName := ⟨RX2, "putAndRemember", "(IJ)V"⟩
abbrev cX2_goBack : ByteArray := prog_4_method_6_code
def yX2_goBack : MethodName := ⟨RX2, "goBack", "()V"⟩
def RX3 : String := "StepStore$Packing"
def TX3 : u_T := fun k => match k with
  | 0 => ("StepStore$Packing", "made", "[Z", true)
  | 1 => ("StepStore$Packing", "lengths", "[I", true)
  | 2 => ("StepStore$Packing", "wordOf", "[I", true)
  | 3 => ("StepStore$Packing", "actsOf", "[I", true)
  | 4 => ("StepStore$Packing", "buses", "I", false)
  | 5 => ("StepStore$Packing", "rows", "LStepStore$Rows;", true)
  | _ => ("StepStore$Packing", "search", "LStepStore$Search;", true)
def tyX3 : Nat → FieldType := fun k => match k with
  | 0 => .array .boolean
  | 1 => .array .int
  | 2 => .array .int
  | 3 => .array .int
  | 4 => .int
  | 5 => .object "StepStore$Rows"
  | _ => .object "StepStore$Search"
abbrev wsX30 : List Cond := u_ws RX3 TX3 7
theorem nmX3 : ∀ a, a < 7 → ∀ b, b < 7 → a ≠ b → (TX3 a).2.1 ≠ (TX3 b).2.1 := by decide +kernel
theorem tyX3_ok : ∀ k, k < 7 → parseFieldDescriptor (TX3 k).2.2.1 = some (tyX3 k) := by decide +kernel
abbrev cX3_init : ByteArray := prog_5_method_1_code
def yX3_init : MethodName := ⟨RX3, "<init>", "(LStepStore$Rows;)V"⟩
abbrev cX3_make : ByteArray := prog_5_method_2_code
def yX3_make : MethodName := ⟨RX3, "make", "(I)V"⟩
abbrev cX3_dropAll : ByteArray := prog_5_method_3_code
def yX3_dropAll : MethodName := ⟨RX3, "dropAll", "()V"⟩
abbrev cX3_holderOf : ByteArray := prog_5_method_4_code
def yX3_holderOf : MethodName := ⟨RX3, "holderOf", "(II)I"⟩
def RX4 : String := "StepStore$Places"
def TX4 : u_T := fun k => match k with
  | 0 => ("StepStore$Places", "made", "Z", false)
  | 1 => ("StepStore$Places", "length", "I", false)
  | 2 => ("StepStore$Places", "owners", "[I", true)
  | 3 => ("StepStore$Places", "acts", "[I", true)
  | 4 => ("StepStore$Places", "nexts", "[I", true)
  | 5 => ("StepStore$Places", "users", "[I", true)
  | 6 => ("StepStore$Places", "placeOf", "[I", true)
  | 7 => ("StepStore$Places", "rows", "LStepStore$Rows;", true)
  | _ => ("StepStore$Places", "packing", "LStepStore$Packing;", true)
def tyX4 : Nat → FieldType := fun k => match k with
  | 0 => .boolean
  | 1 => .int
  | 2 => .array .int
  | 3 => .array .int
  | 4 => .array .int
  | 5 => .array .int
  | 6 => .array .int
  | 7 => .object "StepStore$Rows"
  | _ => .object "StepStore$Packing"
abbrev wsX40 : List Cond := u_ws RX4 TX4 9
theorem nmX4 : ∀ a, a < 9 → ∀ b, b < 9 → a ≠ b → (TX4 a).2.1 ≠ (TX4 b).2.1 := by decide +kernel
theorem tyX4_ok : ∀ k, k < 9 → parseFieldDescriptor (TX4 k).2.2.1 = some (tyX4 k) := by decide +kernel
abbrev cX4_init : ByteArray := prog_6_method_1_code
def yX4_init : MethodName := ⟨RX4, "<init>", "(LStepStore$Rows;LStepStore$Packing;)V"⟩
abbrev cX4_make : ByteArray := prog_6_method_2_code
def yX4_make : MethodName := ⟨RX4, "make", "()V"⟩
abbrev cX4_findOrAdd : ByteArray := prog_6_method_3_code
def yX4_findOrAdd : MethodName := ⟨RX4, "findOrAdd", "(III)I"⟩
abbrev cX4_hasSameActs : ByteArray := prog_6_method_4_code
def yX4_hasSameActs : MethodName := ⟨RX4, "hasSameActs", "(III)Z"⟩
abbrev cX4_firstIn : ByteArray := prog_6_method_5_code
def yX4_firstIn : MethodName := ⟨RX4, "firstIn", "(II)I"⟩
def RX5 : String := "StepStore$Rows"
def TX5 : u_T := fun k => match k with
  | 0 => ("StepStore$Rows", "lengths", "[I", true)
  | 1 => ("StepStore$Rows", "kinds", "[I", true)
  | 2 => ("StepStore$Rows", "ds", "[I", true)
  | 3 => ("StepStore$Rows", "xs", "[I", true)
  | 4 => ("StepStore$Rows", "ys", "[I", true)
  | 5 => ("StepStore$Rows", "reads", "[I", true)
  | _ => ("StepStore$Rows", "writes", "[I", true)
def tyX5 : Nat → FieldType := fun k => match k with
  | 0 => .array .int
  | 1 => .array .int
  | 2 => .array .int
  | 3 => .array .int
  | 4 => .array .int
  | 5 => .array .int
  | _ => .array .int
abbrev wsX50 : List Cond := u_ws RX5 TX5 7
theorem nmX5 : ∀ a, a < 7 → ∀ b, b < 7 → a ≠ b → (TX5 a).2.1 ≠ (TX5 b).2.1 := by decide +kernel
theorem tyX5_ok : ∀ k, k < 7 → parseFieldDescriptor (TX5 k).2.2.1 = some (tyX5 k) := by decide +kernel
abbrev cX5_init : ByteArray := prog_7_method_1_code
def yX5_init : MethodName := ⟨RX5, "<init>", "()V"⟩
abbrev cX5_add : ByteArray := prog_7_method_2_code
def yX5_add : MethodName := ⟨RX5, "add", "(IIIII)V"⟩
abbrev cX5_readsOf : ByteArray := prog_7_method_3_code
def yX5_readsOf : MethodName := ⟨RX5, "readsOf", "(III)I"⟩
abbrev cX5_writesOf : ByteArray := prog_7_method_4_code
def yX5_writesOf : MethodName := ⟨RX5, "writesOf", "(II)I"⟩
abbrev cX5_partOf : ByteArray := prog_7_method_5_code
def yX5_partOf : MethodName := ⟨RX5, "partOf", "(I)I"⟩
abbrev cX5_canTrap : ByteArray := prog_7_method_6_code
def yX5_canTrap : MethodName := ⟨RX5, "canTrap", "(I)Z"⟩
abbrev cX5_same : ByteArray := prog_7_method_7_code
def yX5_same : MethodName := ⟨RX5, "same", "(II)Z"⟩
abbrev cX5_need : ByteArray := prog_7_method_8_code
def yX5_need : MethodName := ⟨RX5, "need", "(II)I"⟩
def RX6 : String := "StepStore$Search"
def TX6 : u_T := fun k => match k with
  | 0 => ("StepStore$Search", "chosen", "[I", true)
  | 1 => ("StepStore$Search", "rows", "LStepStore$Rows;", true)
  | 2 => ("StepStore$Search", "earlier", "[I", true)
  | 3 => ("StepStore$Search", "notAfter", "[I", true)
  | 4 => ("StepStore$Search", "wordsBehind", "[I", true)
  | 5 => ("StepStore$Search", "ofPart", "[I", true)
  | 6 => ("StepStore$Search", "rooms", "[I", true)
  | 7 => ("StepStore$Search", "tooFew", "[B", true)
  | 8 => ("StepStore$Search", "length", "I", false)
  | _ => ("StepStore$Search", "words", "I", false)
def tyX6 : Nat → FieldType := fun k => match k with
  | 0 => .array .int
  | 1 => .object "StepStore$Rows"
  | 2 => .array .int
  | 3 => .array .int
  | 4 => .array .int
  | 5 => .array .int
  | 6 => .array .int
  | 7 => .array .byte
  | 8 => .int
  | _ => .int
abbrev wsX60 : List Cond := u_ws RX6 TX6 10
theorem nmX6 : ∀ a, a < 10 → ∀ b, b < 10 → a ≠ b → (TX6 a).2.1 ≠ (TX6 b).2.1 := by decide +kernel
theorem tyX6_ok : ∀ k, k < 10 → parseFieldDescriptor (TX6 k).2.2.1 = some (tyX6 k) := by decide +kernel
abbrev cX6_init : ByteArray := prog_8_method_1_code
def yX6_init : MethodName := ⟨RX6, "<init>", "(LStepStore$Rows;)V"⟩
abbrev cX6_solve : ByteArray := prog_8_method_2_code
def yX6_solve : MethodName := ⟨RX6, "solve", "(II)I"⟩
abbrev cX6_learnParts : ByteArray := prog_8_method_3_code
def yX6_learnParts : MethodName := ⟨RX6, "learnParts", "(II)V"⟩
abbrev cX6_learnNeeds : ByteArray := prog_8_method_4_code
def yX6_learnNeeds : MethodName := ⟨RX6, "learnNeeds", "(I)V"⟩
abbrev cX6_fill : ByteArray := prog_8_method_5_code
def yX6_fill : MethodName := ⟨RX6, "fill", "(LStepStore$Search;II)Z"⟩
abbrev cX6_areTooMany : ByteArray := prog_8_method_6_code
def yX6_areTooMany : MethodName := ⟨RX6, "areTooMany", "(II)Z"⟩
abbrev cX6_readyAfter : ByteArray := prog_8_method_7_code
def yX6_readyAfter : MethodName := ⟨RX6, "readyAfter", "(I)I"⟩
abbrev cX6_urgentOf : ByteArray := prog_8_method_8_code
def yX6_urgentOf : MethodName := ⟨RX6, "urgentOf", "(II)I"⟩
abbrev cX6_canMeet : ByteArray := prog_8_method_9_code
def yX6_canMeet : MethodName := ⟨RX6, "canMeet", "(III)Z"⟩
def RX7 : String := "StepStore"
def TX7 : u_T := fun k => match k with
  | 0 => ("StepStore", "inside", "LStepStore$Inside;", true)
  | 1 => ("StepStore", "rows", "LStepStore$Rows;", true)
  | 2 => ("StepStore", "packing", "LStepStore$Packing;", true)
  | 3 => ("StepStore", "places", "LStepStore$Places;", true)
  | 4 => ("StepStore", "fields", "LStepStore$Fields;", true)
  | 5 => ("StepStore", "doer", "LStepStore$Doer;", true)
  | 6 => ("StepStore", "told", "[I", true)
  | 7 => ("StepStore", "table", "[I", true)
  | 8 => ("StepStore", "steps", "I", false)
  | 9 => ("StepStore", "traps", "I", false)
  | 10 => ("StepStore", "ended", "I", false)
  | 11 => ("StepStore", "image", "[J", true)
  | 12 => ("StepStore", "hasImage", "Z", false)
  | 13 => ("StepStore", "line", "[S", true)
  | 14 => ("StepStore", "lineLength", "I", false)
  | _ => ("StepStore", "refused", "[I", true)
def tyX7 : Nat → FieldType := fun k => match k with
  | 0 => .object "StepStore$Inside"
  | 1 => .object "StepStore$Rows"
  | 2 => .object "StepStore$Packing"
  | 3 => .object "StepStore$Places"
  | 4 => .object "StepStore$Fields"
  | 5 => .object "StepStore$Doer"
  | 6 => .array .int
  | 7 => .array .int
  | 8 => .int
  | 9 => .int
  | 10 => .int
  | 11 => .array .long
  | 12 => .boolean
  | 13 => .array .short
  | 14 => .int
  | _ => .array .int
abbrev wsX70 : List Cond := u_ws RX7 TX7 16
theorem nmX7 : ∀ a, a < 16 → ∀ b, b < 16 → a ≠ b → (TX7 a).2.1 ≠ (TX7 b).2.1 := by decide +kernel
theorem tyX7_ok : ∀ k, k < 16 → parseFieldDescriptor (TX7 k).2.2.1 = some (tyX7 k) := by decide +kernel
abbrev cX7_init : ByteArray := prog_1_method_1_code
def yX7_init : MethodName := ⟨RX7, "<init>", "()V"⟩
abbrev cX7_width : ByteArray := prog_1_method_2_code
def yX7_width : MethodName := ⟨RX7, "width", "(II)I"⟩
abbrev cX7_set : ByteArray := prog_1_method_3_code
def yX7_set : MethodName := ⟨RX7, "set", "(IJ)I"⟩
abbrev cX7_register : ByteArray := prog_1_method_4_code
def yX7_register : MethodName := ⟨RX7, "register", "(I)J"⟩
abbrev cX7_poke : ByteArray := prog_1_method_5_code
def yX7_poke : MethodName := ⟨RX7, "poke", "(IJ)I"⟩
abbrev cX7_cell : ByteArray := prog_1_method_6_code
def yX7_cell : MethodName := ⟨RX7, "cell", "(I)J"⟩
abbrev cX7_flag : ByteArray := prog_1_method_7_code
def yX7_flag : MethodName := ⟨RX7, "flag", "(IZ)I"⟩
abbrev cX7_flags : ByteArray := prog_1_method_8_code
def yX7_flags : MethodName := ⟨RX7, "flags", "()I"⟩
abbrev cX7_act : ByteArray := prog_1_method_9_code
def yX7_act : MethodName := ⟨RX7, "act", "(IIIII)I"⟩
abbrev cX7_clear : ByteArray := prog_1_method_10_code
def yX7_clear : MethodName := ⟨RX7, "clear", "(I)I"⟩
abbrev cX7_look : ByteArray := prog_1_method_11_code
def yX7_look : MethodName := ⟨RX7, "look", "(III)I"⟩
abbrev cX7_buses : ByteArray := prog_1_method_12_code
def yX7_buses : MethodName := ⟨RX7, "buses", "(I)I"⟩
abbrev cX7_needs : ByteArray := prog_1_method_13_code
def yX7_needs : MethodName := ⟨RX7, "needs", "(III)I"⟩
abbrev cX7_pack : ByteArray := prog_1_method_14_code
def yX7_pack : MethodName := ⟨RX7, "pack", "(I)I"⟩
abbrev cX7_word : ByteArray := prog_1_method_15_code
def yX7_word : MethodName := ⟨RX7, "word", "(II)I"⟩
abbrev cX7_why : ByteArray := prog_1_method_16_code
def yX7_why : MethodName := ⟨RX7, "why", "(II)I"⟩
abbrev cX7_store : ByteArray := prog_1_method_17_code
def yX7_store : MethodName := ⟨RX7, "store", "()I"⟩
abbrev cX7_place : ByteArray := prog_1_method_18_code
def yX7_place : MethodName := ⟨RX7, "place", "(II)I"⟩
abbrev cX7_at : ByteArray := prog_1_method_19_code
def yX7_at : MethodName := ⟨RX7, "at", "(II)I"⟩
abbrev cX7_group : ByteArray := prog_1_method_20_code
def yX7_group : MethodName := ⟨RX7, "group", "(I)I"⟩
abbrev cX7_narrow : ByteArray := prog_1_method_21_code
def yX7_narrow : MethodName := ⟨RX7, "narrow", "(I)I"⟩
abbrev cX7_run : ByteArray := prog_1_method_22_code
def yX7_run : MethodName := ⟨RX7, "run", "(IZ)I"⟩
abbrev cX7_told : ByteArray := prog_1_method_23_code
def yX7_told : MethodName := ⟨RX7, "told", "(I)I"⟩
abbrev cX7_beside : ByteArray := prog_1_method_24_code
def yX7_beside : MethodName := ⟨RX7, "beside", "(I)I"⟩
abbrev cX7_code : ByteArray := prog_1_method_25_code
def yX7_code : MethodName := ⟨RX7, "code", "(II)I"⟩
abbrev cX7_step : ByteArray := prog_1_method_26_code
def yX7_step : MethodName := ⟨RX7, "step", "(I)I"⟩
abbrev cX7_count : ByteArray := prog_1_method_27_code
def yX7_count : MethodName := ⟨RX7, "count", "(I)I"⟩
abbrev cX7_image : ByteArray := prog_1_method_28_code
def yX7_image : MethodName := ⟨RX7, "image", "()I"⟩
abbrev cX7_restore : ByteArray := prog_1_method_29_code
def yX7_restore : MethodName := ⟨RX7, "restore", "()I"⟩
abbrev cX7_lay : ByteArray := prog_1_method_30_code
def yX7_lay : MethodName := ⟨RX7, "lay", "(II)I"⟩
abbrev cX7_tear : ByteArray := prog_1_method_31_code
def yX7_tear : MethodName := ⟨RX7, "tear", "()I"⟩
abbrev cX7_row : ByteArray := prog_1_method_32_code
def yX7_row : MethodName := ⟨RX7, "row", "(I)I"⟩
abbrev cX7_copy : ByteArray := prog_1_method_33_code
def yX7_copy : MethodName := ⟨RX7, "copy", "(III)I"⟩
abbrev cX7_status : ByteArray := prog_1_method_34_code
def yX7_status : MethodName := ⟨RX7, "status", "(I)I"⟩
abbrev cX7_refuse : ByteArray := prog_1_method_35_code
def yX7_refuse : MethodName := ⟨RX7, "refuse", "(I)I"⟩
abbrev cX7_hasAct : ByteArray := prog_1_method_36_code
def yX7_hasAct : MethodName := ⟨RX7, "hasAct", "(II)Z"⟩
abbrev cX7_takeAwayPackedOf : ByteArray := prog_1_method_37_code
def yX7_takeAwayPackedOf : MethodName := ⟨RX7, "takeAwayPackedOf", "(I)V"⟩
abbrev cX7_keepTold : ByteArray := prog_1_method_38_code
def yX7_keepTold : MethodName := ⟨RX7, "keepTold", "()V"⟩
abbrev cX7_doStep : ByteArray := prog_1_method_39_code
def yX7_doStep : MethodName := ⟨RX7, "doStep", "()I"⟩
abbrev cX7_isRegister : ByteArray := prog_1_method_40_code
def yX7_isRegister : MethodName := ⟨RX7, "isRegister", "(I)Z"⟩
abbrev cX7_isCell : ByteArray := prog_1_method_41_code
def yX7_isCell : MethodName := ⟨RX7, "isCell", "(J)Z"⟩
abbrev cX7_isInstruction : ByteArray := prog_1_method_42_code
def yX7_isInstruction : MethodName := ⟨RX7, "isInstruction", "(I)Z"⟩
abbrev cX7_isAct : ByteArray := prog_1_method_43_code
def yX7_isAct : MethodName := ⟨RX7, "isAct", "(IIII)Z"⟩
abbrev cX7_isOfSort : ByteArray := prog_1_method_44_code
def yX7_isOfSort : MethodName := ⟨RX7, "isOfSort", "(II)Z"⟩
abbrev cX7_slot : ByteArray := prog_1_method_45_code
def yX7_slot : MethodName := ⟨RX7, "slot", "(II)I"⟩
abbrev cX7_isIn : ByteArray := prog_1_method_46_code
def yX7_isIn : MethodName := ⟨RX7, "isIn", "(II)Z"⟩
def RX8 : String := "StepStoreModel"
def TX8 : u_T := fun k => match k with
  | 0 => ("StepStoreModel", "now", "[J", true)
  | 1 => ("StepStoreModel", "kept", "[J", true)
  | 2 => ("StepStoreModel", "ahead", "[J", true)
  | 3 => ("StepStoreModel", "before", "[J", true)
  | 4 => ("StepStoreModel", "ended", "[J", true)
  | 5 => ("StepStoreModel", "widths", "[I", true)
  | 6 => ("StepStoreModel", "hasImage", "Z", false)
  | 7 => ("StepStoreModel", "kind", "[I", true)
  | 8 => ("StepStoreModel", "dOf", "[I", true)
  | 9 => ("StepStoreModel", "xOf", "[I", true)
  | 10 => ("StepStoreModel", "yOf", "[I", true)
  | 11 => ("StepStoreModel", "acts", "[I", true)
  | 12 => ("StepStoreModel", "buses", "I", false)
  | 13 => ("StepStoreModel", "refused", "[I", true)
  | 14 => ("StepStoreModel", "fewest", "[I", true)
  | 15 => ("StepStoreModel", "word", "[I", true)
  | 16 => ("StepStoreModel", "wordCount", "[I", true)
  | 17 => ("StepStoreModel", "later", "[I", true)
  | 18 => ("StepStoreModel", "notBefore", "[I", true)
  | 19 => ("StepStoreModel", "isPacked", "[Z", true)
  | 20 => ("StepStoreModel", "placeRow", "[I", true)
  | 21 => ("StepStoreModel", "placeWord", "[I", true)
  | 22 => ("StepStoreModel", "goesOn", "[I", true)
  | 23 => ("StepStoreModel", "sharers", "[I", true)
  | 24 => ("StepStoreModel", "placeOf", "[I", true)
  | 25 => ("StepStoreModel", "places", "I", false)
  | 26 => ("StepStoreModel", "isStored", "Z", false)
  | 27 => ("StepStoreModel", "fieldAct", "[I", true)
  | 28 => ("StepStoreModel", "different", "[I", true)
  | 29 => ("StepStoreModel", "meets", "[I", true)
  | 30 => ("StepStoreModel", "groupOf", "[I", true)
  | 31 => ("StepStoreModel", "groupActs", "[I", true)
  | 32 => ("StepStoreModel", "groups", "I", false)
  | 33 => ("StepStoreModel", "didActs", "I", false)
  | 34 => ("StepStoreModel", "didWords", "I", false)
  | 35 => ("StepStoreModel", "trapped", "I", false)
  | 36 => ("StepStoreModel", "first", "[J", true)
  | 37 => ("StepStoreModel", "codes", "[I", true)
  | 38 => ("StepStoreModel", "stepped", "I", false)
  | 39 => ("StepStoreModel", "traps", "I", false)
  | 40 => ("StepStoreModel", "howEnded", "I", false)
  | 41 => ("StepStoreModel", "row", "[I", true)
  | 42 => ("StepStoreModel", "moved", "[I", true)
  | _ => ("StepStoreModel", "rowSize", "I", false)
def tyX8 : Nat → FieldType := fun k => match k with
  | 0 => .array .long
  | 1 => .array .long
  | 2 => .array .long
  | 3 => .array .long
  | 4 => .array .long
  | 5 => .array .int
  | 6 => .boolean
  | 7 => .array .int
  | 8 => .array .int
  | 9 => .array .int
  | 10 => .array .int
  | 11 => .array .int
  | 12 => .int
  | 13 => .array .int
  | 14 => .array .int
  | 15 => .array .int
  | 16 => .array .int
  | 17 => .array .int
  | 18 => .array .int
  | 19 => .array .boolean
  | 20 => .array .int
  | 21 => .array .int
  | 22 => .array .int
  | 23 => .array .int
  | 24 => .array .int
  | 25 => .int
  | 26 => .boolean
  | 27 => .array .int
  | 28 => .array .int
  | 29 => .array .int
  | 30 => .array .int
  | 31 => .array .int
  | 32 => .int
  | 33 => .int
  | 34 => .int
  | 35 => .int
  | 36 => .array .long
  | 37 => .array .int
  | 38 => .int
  | 39 => .int
  | 40 => .int
  | 41 => .array .int
  | 42 => .array .int
  | _ => .int
abbrev wsX80 : List Cond := u_ws RX8 TX8 44
theorem nmX8 : ∀ a, a < 44 → ∀ b, b < 44 → a ≠ b → (TX8 a).2.1 ≠ (TX8 b).2.1 := by decide +kernel
theorem tyX8_ok : ∀ k, k < 44 → parseFieldDescriptor (TX8 k).2.2.1 = some (tyX8 k) := by decide +kernel
abbrev cX8_init : ByteArray := prog_10_method_1_code
def yX8_init : MethodName := ⟨RX8, "<init>", "()V"⟩
abbrev cX8_isIn : ByteArray := prog_10_method_2_code
def yX8_isIn : MethodName := ⟨RX8, "isIn", "(JJJ)Z"⟩
abbrev cX8_no : ByteArray := prog_10_method_3_code
def yX8_no : MethodName := ⟨RX8, "no", "(I)I"⟩
abbrev cX8_isRegister : ByteArray := prog_10_method_4_code
def yX8_isRegister : MethodName := ⟨RX8, "isRegister", "(I)Z"⟩
abbrev cX8_isCell : ByteArray := prog_10_method_5_code
def yX8_isCell : MethodName := ⟨RX8, "isCell", "(I)Z"⟩
abbrev cX8_isInstruction : ByteArray := prog_10_method_6_code
def yX8_isInstruction : MethodName := ⟨RX8, "isInstruction", "(I)Z"⟩
abbrev cX8_cut : ByteArray := prog_10_method_7_code
def yX8_cut : MethodName := ⟨RX8, "cut", "(IJ)J"⟩
abbrev cX8_width : ByteArray := prog_10_method_8_code
def yX8_width : MethodName := ⟨RX8, "width", "(II)I"⟩
abbrev cX8_set : ByteArray := prog_10_method_9_code
def yX8_set : MethodName := ⟨RX8, "set", "(IJ)I"⟩
abbrev cX8_register : ByteArray := prog_10_method_10_code
def yX8_register : MethodName := ⟨RX8, "register", "(I)J"⟩
abbrev cX8_poke : ByteArray := prog_10_method_11_code
def yX8_poke : MethodName := ⟨RX8, "poke", "(IJ)I"⟩
abbrev cX8_cell : ByteArray := prog_10_method_12_code
def yX8_cell : MethodName := ⟨RX8, "cell", "(I)J"⟩
abbrev cX8_flag : ByteArray := prog_10_method_13_code
def yX8_flag : MethodName := ⟨RX8, "flag", "(IZ)I"⟩
abbrev cX8_flags : ByteArray := prog_10_method_14_code
def yX8_flags : MethodName := ⟨RX8, "flags", "()I"⟩
abbrev cX8_hasD : ByteArray := prog_10_method_15_code
def yX8_hasD : MethodName := ⟨RX8, "hasD", "(I)Z"⟩
abbrev cX8_hasY : ByteArray := prog_10_method_16_code
def yX8_hasY : MethodName := ⟨RX8, "hasY", "(I)Z"⟩
abbrev cX8_isActs : ByteArray := prog_10_method_17_code
def yX8_isActs : MethodName := ⟨RX8, "isActs", "(IIII)Z"⟩
abbrev cX8_act : ByteArray := prog_10_method_18_code
def yX8_act : MethodName := ⟨RX8, "act", "(IIIII)I"⟩
abbrev cX8_clear : ByteArray := prog_10_method_19_code
def yX8_clear : MethodName := ⟨RX8, "clear", "(I)I"⟩
abbrev cX8_isAct : ByteArray := prog_10_method_20_code
def yX8_isAct : MethodName := ⟨RX8, "isAct", "(II)Z"⟩
abbrev cX8_partOf : ByteArray := prog_10_method_21_code
def yX8_partOf : MethodName := ⟨RX8, "partOf", "(I)I"⟩
abbrev cX8_canTrap : ByteArray := prog_10_method_22_code
def yX8_canTrap : MethodName := ⟨RX8, "canTrap", "(I)Z"⟩
abbrev cX8_look : ByteArray := prog_10_method_23_code
def yX8_look : MethodName := ⟨RX8, "look", "(III)I"⟩
abbrev cX8_buses : ByteArray := prog_10_method_24_code
def yX8_buses : MethodName := ⟨RX8, "buses", "(I)I"⟩
abbrev cX8_reads : ByteArray := prog_10_method_25_code
def yX8_reads : MethodName := ⟨RX8, "reads", "(I)I"⟩
abbrev cX8_writes : ByteArray := prog_10_method_26_code
def yX8_writes : MethodName := ⟨RX8, "writes", "(I)I"⟩
abbrev cX8_needed : ByteArray := prog_10_method_27_code
def yX8_needed : MethodName := ⟨RX8, "needed", "(II)I"⟩
abbrev cX8_needs : ByteArray := prog_10_method_28_code
def yX8_needs : MethodName := ⟨RX8, "needs", "(III)I"⟩
abbrev cX8_isWord : ByteArray := prog_10_method_29_code
def yX8_isWord : MethodName := ⟨RX8, "isWord", "(III)Z"⟩
abbrev cX8_packs : ByteArray := prog_10_method_30_code
def yX8_packs : MethodName := ⟨RX8, "packs", "(I)V"⟩
abbrev cX8_pack : ByteArray := prog_10_method_31_code
def yX8_pack : MethodName := ⟨RX8, "pack", "(I)I"⟩
abbrev cX8_word : ByteArray := prog_10_method_32_code
def yX8_word : MethodName := ⟨RX8, "word", "(II)I"⟩
abbrev cX8_why : ByteArray := prog_10_method_33_code
def yX8_why : MethodName := ⟨RX8, "why", "(II)I"⟩
abbrev cX8_actOf : ByteArray := prog_10_method_34_code
def yX8_actOf : MethodName := ⟨RX8, "actOf", "(III)I"⟩
abbrev cX8_areSame : ByteArray := prog_10_method_35_code
def yX8_areSame : MethodName := ⟨RX8, "areSame", "(II)Z"⟩
abbrev cX8_isLike : ByteArray := prog_10_method_36_code
def yX8_isLike : MethodName := ⟨RX8, "isLike", "(III)Z"⟩
abbrev cX8_lays : ByteArray := prog_10_method_37_code
def yX8_lays : MethodName := ⟨RX8, "lays", "(III)I"⟩
abbrev cX8_store : ByteArray := prog_10_method_38_code
def yX8_store : MethodName := ⟨RX8, "store", "()I"⟩
abbrev cX8_place : ByteArray := prog_10_method_39_code
def yX8_place : MethodName := ⟨RX8, "place", "(II)I"⟩
abbrev cX8_actsAt : ByteArray := prog_10_method_40_code
def yX8_actsAt : MethodName := ⟨RX8, "actsAt", "(I)I"⟩
abbrev cX8_at : ByteArray := prog_10_method_41_code
def yX8_at : MethodName := ⟨RX8, "at", "(II)I"⟩
abbrev cX8_findFields : ByteArray := prog_10_method_42_code
def yX8_findFields : MethodName := ⟨RX8, "findFields", "()V"⟩
abbrev cX8_isNew : ByteArray := prog_10_method_43_code
def yX8_isNew : MethodName := ⟨RX8, "isNew", "(II)Z"⟩
abbrev cX8_findGroups : ByteArray := prog_10_method_44_code
def yX8_findGroups : MethodName := ⟨RX8, "findGroups", "()V"⟩
abbrev cX8_isMet : ByteArray := prog_10_method_45_code
def yX8_isMet : MethodName := ⟨RX8, "isMet", "(II)Z"⟩
abbrev cX8_bits : ByteArray := prog_10_method_46_code
def yX8_bits : MethodName := ⟨RX8, "bits", "(I)I"⟩
abbrev cX8_group : ByteArray := prog_10_method_47_code
def yX8_group : MethodName := ⟨RX8, "group", "(I)I"⟩
abbrev cX8_narrow : ByteArray := prog_10_method_48_code
def yX8_narrow : MethodName := ⟨RX8, "narrow", "(I)I"⟩
abbrev cX8_copies : ByteArray := prog_10_method_49_code
def yX8_copies : MethodName := ⟨RX8, "copies", "([J[J)V"⟩
abbrev cX8_holds : ByteArray := prog_10_method_50_code
def yX8_holds : MethodName := ⟨RX8, "holds", "(I)Z"⟩
abbrev cX8_puts : ByteArray := prog_10_method_51_code
def yX8_puts : MethodName := ⟨RX8, "puts", "(IJ)V"⟩
abbrev cX8_worker : ByteArray := prog_10_method_52_code
def yX8_worker : MethodName := ⟨RX8, "worker", "(I)V"⟩
abbrev cX8_does : ByteArray := prog_10_method_53_code
def yX8_does : MethodName := ⟨RX8, "does", "(I)V"⟩
abbrev cX8_plainly : ByteArray := prog_10_method_54_code
def yX8_plainly : MethodName := ⟨RX8, "plainly", "(I)I"⟩
abbrev cX8_byWords : ByteArray := prog_10_method_55_code
def yX8_byWords : MethodName := ⟨RX8, "byWords", "(I)I"⟩
abbrev cX8_run : ByteArray := prog_10_method_56_code
def yX8_run : MethodName := ⟨RX8, "run", "(IZ)I"⟩
abbrev cX8_told : ByteArray := prog_10_method_57_code
def yX8_told : MethodName := ⟨RX8, "told", "(I)I"⟩
abbrev cX8_beside : ByteArray := prog_10_method_58_code
def yX8_beside : MethodName := ⟨RX8, "beside", "(I)I"⟩
abbrev cX8_code : ByteArray := prog_10_method_59_code
def yX8_code : MethodName := ⟨RX8, "code", "(II)I"⟩
abbrev cX8_step : ByteArray := prog_10_method_60_code
def yX8_step : MethodName := ⟨RX8, "step", "(I)I"⟩
abbrev cX8_count : ByteArray := prog_10_method_61_code
def yX8_count : MethodName := ⟨RX8, "count", "(I)I"⟩
abbrev cX8_image : ByteArray := prog_10_method_62_code
def yX8_image : MethodName := ⟨RX8, "image", "()I"⟩
abbrev cX8_restore : ByteArray := prog_10_method_63_code
def yX8_restore : MethodName := ⟨RX8, "restore", "()I"⟩
abbrev cX8_lay : ByteArray := prog_10_method_64_code
def yX8_lay : MethodName := ⟨RX8, "lay", "(II)I"⟩
abbrev cX8_tear : ByteArray := prog_10_method_65_code
def yX8_tear : MethodName := ⟨RX8, "tear", "()I"⟩
abbrev cX8_row : ByteArray := prog_10_method_66_code
def yX8_row : MethodName := ⟨RX8, "row", "(I)I"⟩
abbrev cX8_copy : ByteArray := prog_10_method_67_code
def yX8_copy : MethodName := ⟨RX8, "copy", "(III)I"⟩
abbrev cX8_status : ByteArray := prog_10_method_68_code
def yX8_status : MethodName := ⟨RX8, "status", "(I)I"⟩
def RJ6 : String := "java/lang/Integer"
def TJ6 : u_T := fun k => match k with
  | _ => ("", "", "", false)
def tyJ6 : Nat → FieldType := fun k => match k with
  | _ => .int
abbrev wsJ60 : List Cond := u_ws RJ6 TJ6 0
theorem nmJ6 : ∀ a, a < 0 → ∀ b, b < 0 → a ≠ b → (TJ6 a).2.1 ≠ (TJ6 b).2.1 := by decide +kernel
theorem tyJ6_ok : ∀ k, k < 0 → parseFieldDescriptor (TJ6 k).2.2.1 = some (tyJ6 k) := by decide +kernel
abbrev cJ6_bitCount_0f7a4 : ByteArray := prog_11_method_49_code
def yJ6_bitCount_0f7a4 : MethodName := ⟨RJ6, "bitCount", "(I)I"⟩
def RJ9 : String := "java/lang/Math"
def TJ9 : u_T := fun k => match k with
  | _ => ("", "", "", false)
def tyJ9 : Nat → FieldType := fun k => match k with
  | _ => .int
abbrev wsJ90 : List Cond := u_ws RJ9 TJ9 0
theorem nmJ9 : ∀ a, a < 0 → ∀ b, b < 0 → a ≠ b → (TJ9 a).2.1 ≠ (TJ9 b).2.1 := by decide +kernel
theorem tyJ9_ok : ∀ k, k < 0 → parseFieldDescriptor (TJ9 k).2.2.1 = some (tyJ9 k) := by decide +kernel
abbrev cJ9_max_7cf53 : ByteArray := prog_12_method_65_code
def yJ9_max_7cf53 : MethodName := ⟨RJ9, "max", "(II)I"⟩
def RJ10 : String := "java/lang/System"
def TJ10 : u_T := fun k => match k with
  | _ => ("", "", "", false)
def tyJ10 : Nat → FieldType := fun k => match k with
  | _ => .int
abbrev wsJ100 : List Cond := u_ws RJ10 TJ10 0
theorem nmJ10 : ∀ a, a < 0 → ∀ b, b < 0 → a ≠ b → (TJ10 a).2.1 ≠ (TJ10 b).2.1 := by decide +kernel
theorem tyJ10_ok : ∀ k, k < 0 → parseFieldDescriptor (TJ10 k).2.2.1 = some (tyJ10 k) := by decide +kernel
def RJ7 : String := "java/util/Arrays"
def TJ7 : u_T := fun k => match k with
  | _ => ("", "", "", false)
def tyJ7 : Nat → FieldType := fun k => match k with
  | _ => .int
abbrev wsJ70 : List Cond := u_ws RJ7 TJ7 0
theorem nmJ7 : ∀ a, a < 0 → ∀ b, b < 0 → a ≠ b → (TJ7 a).2.1 ≠ (TJ7 b).2.1 := by decide +kernel
theorem tyJ7_ok : ∀ k, k < 0 → parseFieldDescriptor (TJ7 k).2.2.1 = some (tyJ7 k) := by decide +kernel
abbrev cJ7_fill_53178 : ByteArray := prog_14_method_103_code
def yJ7_fill_53178 : MethodName := ⟨RJ7, "fill", "([II)V"⟩
def RL : String := "StepStoreLaw"
abbrev cL_law : ByteArray := code
def yL_law : MethodName := ⟨RL, "law", "([I)Z"⟩
def wsX0_init : List Cond := .code yX0_init cX0_init 4 none :: ([.methodLink RX0 3 objectInit, .instanceMethod objectInit, .code objectInit ⟨#[0xb1]⟩ 1 none, .fieldLink RX0 9 "StepStore$Doer" "trapped" "I", .arrayClass .int, .fieldLink RX0 15 "StepStore$Doer" "waitingPlaces" "[I", .arrayClass .long, .fieldLink RX0 19 "StepStore$Doer" "waitingNumbers" "[J", .fieldLink RX0 23 "StepStore$Doer" "otherEnd" "[J", .fieldLink RX0 26 "StepStore$Doer" "inside" "LStepStore$Inside;", .fieldLink RX0 30 "StepStore$Doer" "rows" "LStepStore$Rows;", .fieldLink RX0 34 "StepStore$Doer" "packing" "LStepStore$Packing;"] ++ wsX00)
def wsX2_forgetOlds : List Cond := .code yX2_forgetOlds cX2_forgetOlds 1 none :: ([.fieldLink RX2 35 "StepStore$Inside" "olds" "I"] ++ wsX20)
def wsX7_slot : List Cond := .code yX7_slot cX7_slot 2 (some .int) :: ([])
def wsX7_isIn : List Cond := .code yX7_isIn cX7_isIn 2 (some .boolean) :: ([])
def wsX0_putLater : List Cond := .code yX0_putLater cX0_putLater 4 none :: ([.fieldLink RX0 93 "StepStore$Doer" "waiting" "I", .fieldLink RX0 15 "StepStore$Doer" "waitingPlaces" "[I", .fieldLink RX0 19 "StepStore$Doer" "waitingNumbers" "[J"] ++ wsX00)
def wsX7_isCell : List Cond := .code yX7_isCell cX7_isCell 2 (some .boolean) :: ([.constantLong RX7 257 (64)])
def wsX0_fetch : List Cond := .code yX0_fetch cX0_fetch 4 (some .int) :: ([.fieldLink RX0 26 "StepStore$Doer" "inside" "LStepStore$Inside;", .fieldLink RX0 77 "StepStore$Inside" "numbers" "[J", .static yX7_isCell, .initialized RX7, .code yX7_isCell cX7_isCell 2 (some .boolean), .constantLong RX7 257 (64), .methodLink RX0 119 yX0_putLater, .instanceMethod yX0_putLater, .selects RX0 yX0_putLater yX0_putLater, .initialized RX0, .code yX0_putLater cX0_putLater 4 none, .fieldLink RX0 93 "StepStore$Doer" "waiting" "I", .fieldLink RX0 15 "StepStore$Doer" "waitingPlaces" "[I", .fieldLink RX0 19 "StepStore$Doer" "waitingNumbers" "[J"] ++ wsX00 ++ wsX20)
def wsX0_keep : List Cond := .code yX0_keep cX0_keep 5 (some .int) :: ([.static yX7_isCell, .initialized RX7, .code yX7_isCell cX7_isCell 2 (some .boolean), .constantLong RX7 257 (64), .methodLink RX0 119 yX0_putLater, .instanceMethod yX0_putLater, .selects RX0 yX0_putLater yX0_putLater, .initialized RX0, .code yX0_putLater cX0_putLater 4 none, .fieldLink RX0 93 "StepStore$Doer" "waiting" "I", .fieldLink RX0 15 "StepStore$Doer" "waitingPlaces" "[I", .fieldLink RX0 19 "StepStore$Doer" "waitingNumbers" "[J"] ++ wsX00)
def wsX2_cutFor : List Cond := .code yX2_cutFor cX2_cutFor 5 (some .long) :: ([.fieldLink RX2 9 "StepStore$Inside" "widths" "[I"] ++ wsX20)
def wsX0_work : List Cond := .code yX0_work cX0_work 10 none :: ([.fieldLink RX0 26 "StepStore$Doer" "inside" "LStepStore$Inside;", .methodLink RX0 138 yX2_cutFor, .instanceMethod yX2_cutFor, .selects RX2 yX2_cutFor yX2_cutFor, .initialized RX2, .code yX2_cutFor cX2_cutFor 5 (some .long), .fieldLink RX2 9 "StepStore$Inside" "widths" "[I", .methodLink RX0 119 yX0_putLater, .instanceMethod yX0_putLater, .selects RX0 yX0_putLater yX0_putLater, .initialized RX0, .code yX0_putLater cX0_putLater 4 none, .fieldLink RX0 93 "StepStore$Doer" "waiting" "I", .fieldLink RX0 15 "StepStore$Doer" "waitingPlaces" "[I", .fieldLink RX0 19 "StepStore$Doer" "waitingNumbers" "[J"] ++ wsX00 ++ wsX20)
def wsX0_take_r1 : List Cond := [Cond.fieldLink RX0 30 "StepStore$Doer" "rows" "LStepStore$Rows;", Cond.fieldLink RX0 107 "StepStore$Rows" "ds" "[I", Cond.fieldLink RX0 110 "StepStore$Rows" "xs" "[I", Cond.fieldLink RX0 113 "StepStore$Rows" "ys" "[I", Cond.fieldLink RX0 116 "StepStore$Rows" "kinds" "[I", Cond.fieldLink RX0 26 "StepStore$Doer" "inside" "LStepStore$Inside;", Cond.fieldLink RX0 77 "StepStore$Inside" "numbers" "[J", Cond.methodLink RX0 119 yX0_putLater, Cond.instanceMethod yX0_putLater, Cond.selects RX0 yX0_putLater yX0_putLater, Cond.initialized RX0, Cond.code yX0_putLater cX0_putLater 4 none, Cond.fieldLink RX0 93 "StepStore$Doer" "waiting" "I", Cond.fieldLink RX0 15 "StepStore$Doer" "waitingPlaces" "[I", Cond.fieldLink RX0 19 "StepStore$Doer" "waitingNumbers" "[J", Cond.methodLink RX0 122 yX0_fetch, Cond.instanceMethod yX0_fetch, Cond.selects RX0 yX0_fetch yX0_fetch, Cond.code yX0_fetch cX0_fetch 4 (some .int), Cond.static yX7_isCell, Cond.initialized RX7, Cond.code yX7_isCell cX7_isCell 2 (some .boolean), Cond.constantLong RX7 257 (64), Cond.methodLink RX0 126 yX0_keep]
def wsX0_take_r2 : List Cond := [Cond.instanceMethod yX0_keep, Cond.selects RX0 yX0_keep yX0_keep, Cond.code yX0_keep cX0_keep 5 (some .int), Cond.methodLink RX0 130 yX0_work, Cond.instanceMethod yX0_work, Cond.selects RX0 yX0_work yX0_work, Cond.code yX0_work cX0_work 10 none, Cond.methodLink RX0 138 yX2_cutFor, Cond.instanceMethod yX2_cutFor, Cond.selects RX2 yX2_cutFor yX2_cutFor, Cond.initialized RX2, Cond.code yX2_cutFor cX2_cutFor 5 (some .long), Cond.fieldLink RX2 9 "StepStore$Inside" "widths" "[I"]
def wsX0_take : List Cond := .code yX0_take cX0_take 5 (some .int) :: ((wsX0_take_r1 ++ wsX0_take_r2) ++ wsX00 ++ wsX50 ++ wsX20)
def wsX2_goBack : List Cond := .code yX2_goBack cX2_goBack 2 none :: ([.fieldLink RX2 35 "StepStore$Inside" "olds" "I", .fieldLink RX2 15 "StepStore$Inside" "numbers" "[J", .fieldLink RX2 19 "StepStore$Inside" "oldPlaces" "[I", .fieldLink RX2 22 "StepStore$Inside" "oldNumbers" "[J"] ++ wsX20)
def wsX2_put : List Cond := .code yX2_put cX2_put 6 (some .int) :: ([.fieldLink RX2 15 "StepStore$Inside" "numbers" "[J", .methodLink RX2 31 yX2_cutFor, .instanceMethod yX2_cutFor, .selects RX2 yX2_cutFor yX2_cutFor, .initialized RX2, .code yX2_cutFor cX2_cutFor 5 (some .long), .fieldLink RX2 9 "StepStore$Inside" "widths" "[I"] ++ wsX20)
def wsX2_putAndRemember : List Cond := .code yX2_putAndRemember cX2_putAndRemember 4 none :: ([.fieldLink RX2 35 "StepStore$Inside" "olds" "I", .fieldLink RX2 19 "StepStore$Inside" "oldPlaces" "[I", .fieldLink RX2 22 "StepStore$Inside" "oldNumbers" "[J", .fieldLink RX2 15 "StepStore$Inside" "numbers" "[J", .methodLink RX2 39 yX2_put, .instanceMethod yX2_put, .selects RX2 yX2_put yX2_put, .initialized RX2, .code yX2_put cX2_put 6 (some .int), .methodLink RX2 31 yX2_cutFor, .instanceMethod yX2_cutFor, .selects RX2 yX2_cutFor yX2_cutFor, .code yX2_cutFor cX2_cutFor 5 (some .long), .fieldLink RX2 9 "StepStore$Inside" "widths" "[I"] ++ wsX20)
def wsX0_doTogether_r1 : List Cond := [Cond.fieldLink RX0 93 "StepStore$Doer" "waiting" "I", Cond.fieldLink RX0 9 "StepStore$Doer" "trapped" "I", Cond.fieldLink RX0 26 "StepStore$Doer" "inside" "LStepStore$Inside;", Cond.fieldLink RX0 15 "StepStore$Doer" "waitingPlaces" "[I", Cond.fieldLink RX0 19 "StepStore$Doer" "waitingNumbers" "[J", Cond.static yX7_isIn, Cond.initialized RX7, Cond.code yX7_isIn cX7_isIn 2 (some .boolean), Cond.static yX7_slot, Cond.code yX7_slot cX7_slot 2 (some .int), Cond.methodLink RX0 100 yX0_take, Cond.instanceMethod yX0_take, Cond.selects RX0 yX0_take yX0_take, Cond.initialized RX0, Cond.code yX0_take cX0_take 5 (some .int), Cond.fieldLink RX0 30 "StepStore$Doer" "rows" "LStepStore$Rows;", Cond.fieldLink RX0 107 "StepStore$Rows" "ds" "[I", Cond.fieldLink RX0 110 "StepStore$Rows" "xs" "[I", Cond.fieldLink RX0 113 "StepStore$Rows" "ys" "[I", Cond.fieldLink RX0 116 "StepStore$Rows" "kinds" "[I", Cond.fieldLink RX0 77 "StepStore$Inside" "numbers" "[J", Cond.methodLink RX0 119 yX0_putLater, Cond.instanceMethod yX0_putLater, Cond.selects RX0 yX0_putLater yX0_putLater]
def wsX0_doTogether_r2 : List Cond := [Cond.code yX0_putLater cX0_putLater 4 none, Cond.methodLink RX0 122 yX0_fetch, Cond.instanceMethod yX0_fetch, Cond.selects RX0 yX0_fetch yX0_fetch, Cond.code yX0_fetch cX0_fetch 4 (some .int), Cond.static yX7_isCell, Cond.code yX7_isCell cX7_isCell 2 (some .boolean), Cond.constantLong RX7 257 (64), Cond.methodLink RX0 126 yX0_keep, Cond.instanceMethod yX0_keep, Cond.selects RX0 yX0_keep yX0_keep, Cond.code yX0_keep cX0_keep 5 (some .int), Cond.methodLink RX0 130 yX0_work, Cond.instanceMethod yX0_work, Cond.selects RX0 yX0_work yX0_work, Cond.code yX0_work cX0_work 10 none, Cond.methodLink RX0 138 yX2_cutFor, Cond.instanceMethod yX2_cutFor, Cond.selects RX2 yX2_cutFor yX2_cutFor, Cond.initialized RX2, Cond.code yX2_cutFor cX2_cutFor 5 (some .long), Cond.fieldLink RX2 9 "StepStore$Inside" "widths" "[I", Cond.methodLink RX0 86 yX2_goBack, Cond.instanceMethod yX2_goBack]
def wsX0_doTogether_r3 : List Cond := [Cond.selects RX2 yX2_goBack yX2_goBack, Cond.code yX2_goBack cX2_goBack 2 none, Cond.fieldLink RX2 35 "StepStore$Inside" "olds" "I", Cond.fieldLink RX2 15 "StepStore$Inside" "numbers" "[J", Cond.fieldLink RX2 19 "StepStore$Inside" "oldPlaces" "[I", Cond.fieldLink RX2 22 "StepStore$Inside" "oldNumbers" "[J", Cond.methodLink RX0 103 yX2_putAndRemember, Cond.instanceMethod yX2_putAndRemember, Cond.selects RX2 yX2_putAndRemember yX2_putAndRemember, Cond.code yX2_putAndRemember cX2_putAndRemember 4 none, Cond.methodLink RX2 39 yX2_put, Cond.instanceMethod yX2_put, Cond.selects RX2 yX2_put yX2_put, Cond.code yX2_put cX2_put 6 (some .int), Cond.methodLink RX2 31 yX2_cutFor]
def wsX0_doTogether : List Cond := .code yX0_doTogether cX0_doTogether 6 (some .int) :: ((wsX0_doTogether_r1 ++ (wsX0_doTogether_r2 ++ wsX0_doTogether_r3)) ++ wsX00 ++ wsX50 ++ wsX20)
def wsJ6_bitCount_0f7a4 : List Cond := .code yJ6_bitCount_0f7a4 cJ6_bitCount_0f7a4 1 (some .int) :: ([.constant RJ6 265 (1431655765), .constant RJ6 266 (858993459), .constant RJ6 267 (252645135)])
def wsX0_perform_r1 : List Cond := [Cond.fieldLink RX0 26 "StepStore$Doer" "inside" "LStepStore$Inside;", Cond.fieldLink RX0 9 "StepStore$Doer" "trapped" "I", Cond.fieldLink RX0 43 "StepStore$Doer" "actsDone" "I", Cond.fieldLink RX0 46 "StepStore$Doer" "wordsDone" "I", Cond.fieldLink RX0 34 "StepStore$Doer" "packing" "LStepStore$Packing;", Cond.fieldLink RX0 49 "StepStore$Packing" "lengths" "[I", Cond.fieldLink RX0 30 "StepStore$Doer" "rows" "LStepStore$Rows;", Cond.fieldLink RX0 54 "StepStore$Rows" "lengths" "[I", Cond.fieldLink RX0 57 "StepStore$Packing" "actsOf" "[I", Cond.methodLink RX0 38 yX2_forgetOlds, Cond.instanceMethod yX2_forgetOlds, Cond.selects RX2 yX2_forgetOlds yX2_forgetOlds, Cond.initialized RX2, Cond.code yX2_forgetOlds cX2_forgetOlds 1 none, Cond.fieldLink RX2 35 "StepStore$Inside" "olds" "I", Cond.static yX7_slot, Cond.initialized RX7, Cond.code yX7_slot cX7_slot 2 (some .int), Cond.methodLink RX0 64 yX0_doTogether, Cond.instanceMethod yX0_doTogether, Cond.selects RX0 yX0_doTogether yX0_doTogether, Cond.initialized RX0, Cond.code yX0_doTogether cX0_doTogether 6 (some .int), Cond.fieldLink RX0 93 "StepStore$Doer" "waiting" "I"]
def wsX0_perform_r2 : List Cond := [Cond.fieldLink RX0 15 "StepStore$Doer" "waitingPlaces" "[I", Cond.fieldLink RX0 19 "StepStore$Doer" "waitingNumbers" "[J", Cond.static yX7_isIn, Cond.code yX7_isIn cX7_isIn 2 (some .boolean), Cond.methodLink RX0 100 yX0_take, Cond.instanceMethod yX0_take, Cond.selects RX0 yX0_take yX0_take, Cond.code yX0_take cX0_take 5 (some .int), Cond.fieldLink RX0 107 "StepStore$Rows" "ds" "[I", Cond.fieldLink RX0 110 "StepStore$Rows" "xs" "[I", Cond.fieldLink RX0 113 "StepStore$Rows" "ys" "[I", Cond.fieldLink RX0 116 "StepStore$Rows" "kinds" "[I", Cond.fieldLink RX0 77 "StepStore$Inside" "numbers" "[J", Cond.methodLink RX0 119 yX0_putLater, Cond.instanceMethod yX0_putLater, Cond.selects RX0 yX0_putLater yX0_putLater, Cond.code yX0_putLater cX0_putLater 4 none, Cond.methodLink RX0 122 yX0_fetch, Cond.instanceMethod yX0_fetch, Cond.selects RX0 yX0_fetch yX0_fetch, Cond.code yX0_fetch cX0_fetch 4 (some .int), Cond.static yX7_isCell, Cond.code yX7_isCell cX7_isCell 2 (some .boolean), Cond.constantLong RX7 257 (64)]
def wsX0_perform_r3 : List Cond := [Cond.methodLink RX0 126 yX0_keep, Cond.instanceMethod yX0_keep, Cond.selects RX0 yX0_keep yX0_keep, Cond.code yX0_keep cX0_keep 5 (some .int), Cond.methodLink RX0 130 yX0_work, Cond.instanceMethod yX0_work, Cond.selects RX0 yX0_work yX0_work, Cond.code yX0_work cX0_work 10 none, Cond.methodLink RX0 138 yX2_cutFor, Cond.instanceMethod yX2_cutFor, Cond.selects RX2 yX2_cutFor yX2_cutFor, Cond.code yX2_cutFor cX2_cutFor 5 (some .long), Cond.fieldLink RX2 9 "StepStore$Inside" "widths" "[I", Cond.methodLink RX0 86 yX2_goBack, Cond.instanceMethod yX2_goBack, Cond.selects RX2 yX2_goBack yX2_goBack, Cond.code yX2_goBack cX2_goBack 2 none, Cond.fieldLink RX2 15 "StepStore$Inside" "numbers" "[J", Cond.fieldLink RX2 19 "StepStore$Inside" "oldPlaces" "[I", Cond.fieldLink RX2 22 "StepStore$Inside" "oldNumbers" "[J", Cond.methodLink RX0 103 yX2_putAndRemember, Cond.instanceMethod yX2_putAndRemember, Cond.selects RX2 yX2_putAndRemember yX2_putAndRemember, Cond.code yX2_putAndRemember cX2_putAndRemember 4 none]
def wsX0_perform_r4 : List Cond := [Cond.methodLink RX2 39 yX2_put, Cond.instanceMethod yX2_put, Cond.selects RX2 yX2_put yX2_put, Cond.code yX2_put cX2_put 6 (some .int), Cond.methodLink RX2 31 yX2_cutFor, Cond.methodLink RX0 67 yJ6_bitCount_0f7a4, Cond.static yJ6_bitCount_0f7a4, Cond.initialized RJ6, Cond.code yJ6_bitCount_0f7a4 cJ6_bitCount_0f7a4 1 (some .int), Cond.constant RJ6 265 (1431655765), Cond.constant RJ6 266 (858993459), Cond.constant RJ6 267 (252645135)]
def wsX0_perform : List Cond := .code yX0_perform cX0_perform 7 (some .int) :: ((wsX0_perform_r1 ++ (wsX0_perform_r2 ++ (wsX0_perform_r3 ++ wsX0_perform_r4))) ++ wsX00 ++ wsX30 ++ wsX50 ++ wsX20)
def wsX0_isOtherEnd : List Cond := .code yX0_isOtherEnd cX0_isOtherEnd 2 (some .boolean) :: ([.fieldLink RX0 26 "StepStore$Doer" "inside" "LStepStore$Inside;", .fieldLink RX0 77 "StepStore$Inside" "numbers" "[J", .fieldLink RX0 23 "StepStore$Doer" "otherEnd" "[J"] ++ wsX00 ++ wsX20)
def wsX0_endsAlike_r1 : List Cond := [Cond.fieldLink RX0 26 "StepStore$Doer" "inside" "LStepStore$Inside;", Cond.fieldLink RX0 77 "StepStore$Inside" "numbers" "[J", Cond.fieldLink RX0 23 "StepStore$Doer" "otherEnd" "[J", Cond.methodLink RX0 80 arraycopyName, Cond.native arraycopyName, Cond.static arraycopyName, Cond.initialized "java/lang/System", Cond.methodLink RX0 73 yX0_perform, Cond.instanceMethod yX0_perform, Cond.selects RX0 yX0_perform yX0_perform, Cond.initialized RX0, Cond.code yX0_perform cX0_perform 7 (some .int), Cond.fieldLink RX0 9 "StepStore$Doer" "trapped" "I", Cond.fieldLink RX0 43 "StepStore$Doer" "actsDone" "I", Cond.fieldLink RX0 46 "StepStore$Doer" "wordsDone" "I", Cond.fieldLink RX0 34 "StepStore$Doer" "packing" "LStepStore$Packing;", Cond.fieldLink RX0 49 "StepStore$Packing" "lengths" "[I", Cond.fieldLink RX0 30 "StepStore$Doer" "rows" "LStepStore$Rows;", Cond.fieldLink RX0 54 "StepStore$Rows" "lengths" "[I", Cond.fieldLink RX0 57 "StepStore$Packing" "actsOf" "[I", Cond.methodLink RX0 38 yX2_forgetOlds, Cond.instanceMethod yX2_forgetOlds, Cond.selects RX2 yX2_forgetOlds yX2_forgetOlds, Cond.initialized RX2]
def wsX0_endsAlike_r2 : List Cond := [Cond.code yX2_forgetOlds cX2_forgetOlds 1 none, Cond.fieldLink RX2 35 "StepStore$Inside" "olds" "I", Cond.static yX7_slot, Cond.initialized RX7, Cond.code yX7_slot cX7_slot 2 (some .int), Cond.methodLink RX0 64 yX0_doTogether, Cond.instanceMethod yX0_doTogether, Cond.selects RX0 yX0_doTogether yX0_doTogether, Cond.code yX0_doTogether cX0_doTogether 6 (some .int), Cond.fieldLink RX0 93 "StepStore$Doer" "waiting" "I", Cond.fieldLink RX0 15 "StepStore$Doer" "waitingPlaces" "[I", Cond.fieldLink RX0 19 "StepStore$Doer" "waitingNumbers" "[J", Cond.static yX7_isIn, Cond.code yX7_isIn cX7_isIn 2 (some .boolean), Cond.methodLink RX0 100 yX0_take, Cond.instanceMethod yX0_take, Cond.selects RX0 yX0_take yX0_take, Cond.code yX0_take cX0_take 5 (some .int), Cond.fieldLink RX0 107 "StepStore$Rows" "ds" "[I", Cond.fieldLink RX0 110 "StepStore$Rows" "xs" "[I", Cond.fieldLink RX0 113 "StepStore$Rows" "ys" "[I", Cond.fieldLink RX0 116 "StepStore$Rows" "kinds" "[I", Cond.methodLink RX0 119 yX0_putLater, Cond.instanceMethod yX0_putLater]
def wsX0_endsAlike_r3 : List Cond := [Cond.selects RX0 yX0_putLater yX0_putLater, Cond.code yX0_putLater cX0_putLater 4 none, Cond.methodLink RX0 122 yX0_fetch, Cond.instanceMethod yX0_fetch, Cond.selects RX0 yX0_fetch yX0_fetch, Cond.code yX0_fetch cX0_fetch 4 (some .int), Cond.static yX7_isCell, Cond.code yX7_isCell cX7_isCell 2 (some .boolean), Cond.constantLong RX7 257 (64), Cond.methodLink RX0 126 yX0_keep, Cond.instanceMethod yX0_keep, Cond.selects RX0 yX0_keep yX0_keep, Cond.code yX0_keep cX0_keep 5 (some .int), Cond.methodLink RX0 130 yX0_work, Cond.instanceMethod yX0_work, Cond.selects RX0 yX0_work yX0_work, Cond.code yX0_work cX0_work 10 none, Cond.methodLink RX0 138 yX2_cutFor, Cond.instanceMethod yX2_cutFor, Cond.selects RX2 yX2_cutFor yX2_cutFor, Cond.code yX2_cutFor cX2_cutFor 5 (some .long), Cond.fieldLink RX2 9 "StepStore$Inside" "widths" "[I", Cond.methodLink RX0 86 yX2_goBack, Cond.instanceMethod yX2_goBack]
def wsX0_endsAlike_r4 : List Cond := [Cond.selects RX2 yX2_goBack yX2_goBack, Cond.code yX2_goBack cX2_goBack 2 none, Cond.fieldLink RX2 15 "StepStore$Inside" "numbers" "[J", Cond.fieldLink RX2 19 "StepStore$Inside" "oldPlaces" "[I", Cond.fieldLink RX2 22 "StepStore$Inside" "oldNumbers" "[J", Cond.methodLink RX0 103 yX2_putAndRemember, Cond.instanceMethod yX2_putAndRemember, Cond.selects RX2 yX2_putAndRemember yX2_putAndRemember, Cond.code yX2_putAndRemember cX2_putAndRemember 4 none, Cond.methodLink RX2 39 yX2_put, Cond.instanceMethod yX2_put, Cond.selects RX2 yX2_put yX2_put, Cond.code yX2_put cX2_put 6 (some .int), Cond.methodLink RX2 31 yX2_cutFor, Cond.methodLink RX0 67 yJ6_bitCount_0f7a4, Cond.static yJ6_bitCount_0f7a4, Cond.initialized RJ6, Cond.code yJ6_bitCount_0f7a4 cJ6_bitCount_0f7a4 1 (some .int), Cond.constant RJ6 265 (1431655765), Cond.constant RJ6 266 (858993459), Cond.constant RJ6 267 (252645135), Cond.methodLink RX0 89 yX0_isOtherEnd, Cond.instanceMethod yX0_isOtherEnd, Cond.selects RX0 yX0_isOtherEnd yX0_isOtherEnd]
def wsX0_endsAlike_r5 : List Cond := [Cond.code yX0_isOtherEnd cX0_isOtherEnd 2 (some .boolean)]
def wsX0_endsAlike : List Cond := .code yX0_endsAlike cX0_endsAlike 4 (some .boolean) :: ((wsX0_endsAlike_r1 ++ (wsX0_endsAlike_r2 ++ (wsX0_endsAlike_r3 ++ (wsX0_endsAlike_r4 ++ wsX0_endsAlike_r5)))) ++ wsX00 ++ wsX20 ++ wsX30 ++ wsX50)
def wsX1_init : List Cond := .code yX1_init cX1_init 3 none :: ([.methodLink RX1 3 objectInit, .instanceMethod objectInit, .code objectInit ⟨#[0xb1]⟩ 1 none, .arrayClass .int, .fieldLink RX1 9 "StepStore$Fields" "groupOf" "[I", .fieldLink RX1 15 "StepStore$Fields" "seenSlots" "[I", .fieldLink RX1 18 "StepStore$Fields" "seenFields" "[I", .fieldLink RX1 21 "StepStore$Fields" "different" "[I", .fieldLink RX1 24 "StepStore$Fields" "meets" "[I", .fieldLink RX1 27 "StepStore$Fields" "fieldsOfGroup" "[I", .fieldLink RX1 30 "StepStore$Fields" "actsOfGroup" "[I", .fieldLink RX1 33 "StepStore$Fields" "rows" "LStepStore$Rows;", .fieldLink RX1 37 "StepStore$Fields" "places" "LStepStore$Places;"] ++ wsX10)
def wsJ7_fill_53178 : List Cond := .code yJ7_fill_53178 cJ7_fill_53178 4 none :: ([])
def wsX5_partOf : List Cond := .code yX5_partOf cX5_partOf 2 (some .int) :: ([.fieldLink RX5 15 "StepStore$Rows" "kinds" "[I"] ++ wsX50)
def wsX5_same : List Cond := .code yX5_same cX5_same 3 (some .boolean) :: ([.fieldLink RX5 15 "StepStore$Rows" "kinds" "[I", .fieldLink RX5 18 "StepStore$Rows" "ds" "[I", .fieldLink RX5 21 "StepStore$Rows" "xs" "[I", .fieldLink RX5 24 "StepStore$Rows" "ys" "[I"] ++ wsX50)
def wsX1_addIfNew : List Cond := .code yX1_addIfNew cX1_addIfNew 4 none :: ([.fieldLink RX1 41 "StepStore$Fields" "seen" "I", .fieldLink RX1 18 "StepStore$Fields" "seenFields" "[I", .fieldLink RX1 33 "StepStore$Fields" "rows" "LStepStore$Rows;", .fieldLink RX1 15 "StepStore$Fields" "seenSlots" "[I", .fieldLink RX1 21 "StepStore$Fields" "different" "[I", .methodLink RX1 99 yX5_same, .instanceMethod yX5_same, .selects RX5 yX5_same yX5_same, .initialized RX5, .code yX5_same cX5_same 3 (some .boolean), .fieldLink RX5 15 "StepStore$Rows" "kinds" "[I", .fieldLink RX5 18 "StepStore$Rows" "ds" "[I", .fieldLink RX5 21 "StepStore$Rows" "xs" "[I", .fieldLink RX5 24 "StepStore$Rows" "ys" "[I"] ++ wsX10 ++ wsX50)
def wsX1_learnActs_r1 : List Cond := [Cond.fieldLink RX1 33 "StepStore$Fields" "rows" "LStepStore$Rows;", Cond.static yX7_isIn, Cond.initialized RX7, Cond.code yX7_isIn cX7_isIn 2 (some .boolean), Cond.static yX7_slot, Cond.code yX7_slot cX7_slot 2 (some .int), Cond.methodLink RX1 90 yX5_partOf, Cond.instanceMethod yX5_partOf, Cond.selects RX5 yX5_partOf yX5_partOf, Cond.initialized RX5, Cond.code yX5_partOf cX5_partOf 2 (some .int), Cond.fieldLink RX5 15 "StepStore$Rows" "kinds" "[I", Cond.methodLink RX1 95 yX1_addIfNew, Cond.instanceMethod yX1_addIfNew, Cond.selects RX1 yX1_addIfNew yX1_addIfNew, Cond.initialized RX1, Cond.code yX1_addIfNew cX1_addIfNew 4 none, Cond.fieldLink RX1 41 "StepStore$Fields" "seen" "I", Cond.fieldLink RX1 18 "StepStore$Fields" "seenFields" "[I", Cond.fieldLink RX1 15 "StepStore$Fields" "seenSlots" "[I", Cond.fieldLink RX1 21 "StepStore$Fields" "different" "[I", Cond.methodLink RX1 99 yX5_same, Cond.instanceMethod yX5_same, Cond.selects RX5 yX5_same yX5_same]
def wsX1_learnActs_r2 : List Cond := [Cond.code yX5_same cX5_same 3 (some .boolean), Cond.fieldLink RX5 18 "StepStore$Rows" "ds" "[I", Cond.fieldLink RX5 21 "StepStore$Rows" "xs" "[I", Cond.fieldLink RX5 24 "StepStore$Rows" "ys" "[I"]
def wsX1_learnActs : List Cond := .code yX1_learnActs cX1_learnActs 9 (some .int) :: ((wsX1_learnActs_r1 ++ wsX1_learnActs_r2) ++ wsX10 ++ wsX50)
def wsX1_learnMeetings : List Cond := .code yX1_learnMeetings cX1_learnMeetings 3 none :: ([.fieldLink RX1 24 "StepStore$Fields" "meets" "[I", .static yX7_isIn, .initialized RX7, .code yX7_isIn cX7_isIn 2 (some .boolean)] ++ wsX10)
def wsX1_firstGroupFor : List Cond := .code yX1_firstGroupFor cX1_firstGroupFor 3 (some .int) :: ([.fieldLink RX1 80 "StepStore$Fields" "groups" "I", .fieldLink RX1 27 "StepStore$Fields" "fieldsOfGroup" "[I", .fieldLink RX1 24 "StepStore$Fields" "meets" "[I"] ++ wsX10)
def wsX1_makeGroups : List Cond := .code yX1_makeGroups cX1_makeGroups 3 none :: ([.fieldLink RX1 80 "StepStore$Fields" "groups" "I", .fieldLink RX1 27 "StepStore$Fields" "fieldsOfGroup" "[I", .fieldLink RX1 30 "StepStore$Fields" "actsOfGroup" "[I", .fieldLink RX1 9 "StepStore$Fields" "groupOf" "[I", .fieldLink RX1 21 "StepStore$Fields" "different" "[I", .methodLink RX1 105 Lib.Math.max.name, .static Lib.Math.max.name, .initialized "java/lang/Math", .code Lib.Math.max.name Lib.Math.max.code 2 (some .int), .methodLink RX1 45 yJ7_fill_53178, .static yJ7_fill_53178, .initialized RJ7, .code yJ7_fill_53178 cJ7_fill_53178 4 none, .methodLink RX1 102 yX1_firstGroupFor, .instanceMethod yX1_firstGroupFor, .selects RX1 yX1_firstGroupFor yX1_firstGroupFor, .initialized RX1, .code yX1_firstGroupFor cX1_firstGroupFor 3 (some .int), .fieldLink RX1 24 "StepStore$Fields" "meets" "[I"] ++ wsX10)
def wsX1_bitsToTell : List Cond := .code yX1_bitsToTell cX1_bitsToTell 3 (some .int) :: ([])
def wsX1_make_r1 : List Cond := [Cond.fieldLink RX1 41 "StepStore$Fields" "seen" "I", Cond.fieldLink RX1 21 "StepStore$Fields" "different" "[I", Cond.fieldLink RX1 24 "StepStore$Fields" "meets" "[I", Cond.fieldLink RX1 37 "StepStore$Fields" "places" "LStepStore$Places;", Cond.fieldLink RX1 51 "StepStore$Places" "length" "I", Cond.fieldLink RX1 56 "StepStore$Places" "owners" "[I", Cond.fieldLink RX1 59 "StepStore$Places" "acts" "[I", Cond.fieldLink RX1 77 "StepStore$Fields" "wordBits" "I", Cond.fieldLink RX1 80 "StepStore$Fields" "groups" "I", Cond.fieldLink RX1 30 "StepStore$Fields" "actsOfGroup" "[I", Cond.methodLink RX1 45 yJ7_fill_53178, Cond.static yJ7_fill_53178, Cond.initialized RJ7, Cond.code yJ7_fill_53178 cJ7_fill_53178 4 none, Cond.methodLink RX1 62 yX1_learnActs, Cond.instanceMethod yX1_learnActs, Cond.selects RX1 yX1_learnActs yX1_learnActs, Cond.initialized RX1, Cond.code yX1_learnActs cX1_learnActs 9 (some .int), Cond.fieldLink RX1 33 "StepStore$Fields" "rows" "LStepStore$Rows;", Cond.static yX7_isIn, Cond.initialized RX7, Cond.code yX7_isIn cX7_isIn 2 (some .boolean), Cond.static yX7_slot]
def wsX1_make_r2 : List Cond := [Cond.code yX7_slot cX7_slot 2 (some .int), Cond.methodLink RX1 90 yX5_partOf, Cond.instanceMethod yX5_partOf, Cond.selects RX5 yX5_partOf yX5_partOf, Cond.initialized RX5, Cond.code yX5_partOf cX5_partOf 2 (some .int), Cond.fieldLink RX5 15 "StepStore$Rows" "kinds" "[I", Cond.methodLink RX1 95 yX1_addIfNew, Cond.instanceMethod yX1_addIfNew, Cond.selects RX1 yX1_addIfNew yX1_addIfNew, Cond.code yX1_addIfNew cX1_addIfNew 4 none, Cond.fieldLink RX1 18 "StepStore$Fields" "seenFields" "[I", Cond.fieldLink RX1 15 "StepStore$Fields" "seenSlots" "[I", Cond.methodLink RX1 99 yX5_same, Cond.instanceMethod yX5_same, Cond.selects RX5 yX5_same yX5_same, Cond.code yX5_same cX5_same 3 (some .boolean), Cond.fieldLink RX5 18 "StepStore$Rows" "ds" "[I", Cond.fieldLink RX5 21 "StepStore$Rows" "xs" "[I", Cond.fieldLink RX5 24 "StepStore$Rows" "ys" "[I", Cond.methodLink RX1 66 yX1_learnMeetings, Cond.instanceMethod yX1_learnMeetings, Cond.selects RX1 yX1_learnMeetings yX1_learnMeetings, Cond.code yX1_learnMeetings cX1_learnMeetings 3 none]
def wsX1_make_r3 : List Cond := [Cond.methodLink RX1 70 yX1_makeGroups, Cond.instanceMethod yX1_makeGroups, Cond.selects RX1 yX1_makeGroups yX1_makeGroups, Cond.code yX1_makeGroups cX1_makeGroups 3 none, Cond.fieldLink RX1 27 "StepStore$Fields" "fieldsOfGroup" "[I", Cond.fieldLink RX1 9 "StepStore$Fields" "groupOf" "[I", Cond.methodLink RX1 105 Lib.Math.max.name, Cond.static Lib.Math.max.name, Cond.initialized "java/lang/Math", Cond.code Lib.Math.max.name Lib.Math.max.code 2 (some .int), Cond.methodLink RX1 102 yX1_firstGroupFor, Cond.instanceMethod yX1_firstGroupFor, Cond.selects RX1 yX1_firstGroupFor yX1_firstGroupFor, Cond.code yX1_firstGroupFor cX1_firstGroupFor 3 (some .int), Cond.methodLink RX1 73 yX1_bitsToTell, Cond.static yX1_bitsToTell, Cond.code yX1_bitsToTell cX1_bitsToTell 3 (some .int)]
def wsX1_make : List Cond := .code yX1_make cX1_make 2 none :: ((wsX1_make_r1 ++ (wsX1_make_r2 ++ wsX1_make_r3)) ++ wsX10 ++ wsX40 ++ wsX50)
def wsX2_init : List Cond := .code yX2_init cX2_init 1 none :: ([.methodLink RX2 3 objectInit, .instanceMethod objectInit, .code objectInit ⟨#[0xb1]⟩ 1 none, .arrayClass .int, .fieldLink RX2 9 "StepStore$Inside" "widths" "[I", .arrayClass .long, .fieldLink RX2 15 "StepStore$Inside" "numbers" "[J", .fieldLink RX2 19 "StepStore$Inside" "oldPlaces" "[I", .fieldLink RX2 22 "StepStore$Inside" "oldNumbers" "[J", .methodLink RX2 25 yJ7_fill_53178, .static yJ7_fill_53178, .initialized RJ7, .code yJ7_fill_53178 cJ7_fill_53178 4 none] ++ wsX20)
def wsX6_init : List Cond := .code yX6_init cX6_init 2 none :: ([.methodLink RX6 3 objectInit, .instanceMethod objectInit, .code objectInit ⟨#[0xb1]⟩ 1 none, .arrayClass .int, .fieldLink RX6 9 "StepStore$Search" "chosen" "[I", .fieldLink RX6 15 "StepStore$Search" "earlier" "[I", .fieldLink RX6 18 "StepStore$Search" "notAfter" "[I", .fieldLink RX6 21 "StepStore$Search" "wordsBehind" "[I", .fieldLink RX6 24 "StepStore$Search" "ofPart" "[I", .fieldLink RX6 27 "StepStore$Search" "rooms" "[I", .arrayClass .byte, .fieldLink RX6 30 "StepStore$Search" "tooFew" "[B", .fieldLink RX6 34 "StepStore$Search" "rows" "LStepStore$Rows;"] ++ wsX60)
def wsX3_init_r1 : List Cond := [Cond.methodLink RX3 3 objectInit, Cond.instanceMethod objectInit, Cond.code objectInit ⟨#[0xb1]⟩ 1 none, Cond.arrayClass .boolean, Cond.fieldLink RX3 9 "StepStore$Packing" "made" "[Z", Cond.arrayClass .int, Cond.fieldLink RX3 15 "StepStore$Packing" "lengths" "[I", Cond.fieldLink RX3 19 "StepStore$Packing" "wordOf" "[I", Cond.fieldLink RX3 22 "StepStore$Packing" "actsOf" "[I", Cond.fieldLink RX3 25 "StepStore$Packing" "buses" "I", Cond.fieldLink RX3 29 "StepStore$Packing" "rows" "LStepStore$Rows;", Cond.classLink RX3 33 RX6, Cond.instantiable RX6 10, Cond.initialized RX6, Cond.fieldLink RX3 38 "StepStore$Packing" "search" "LStepStore$Search;", Cond.methodLink RX3 35 yX6_init, Cond.instanceMethod yX6_init, Cond.code yX6_init cX6_init 2 none, Cond.methodLink RX6 3 objectInit, Cond.fieldLink RX6 9 "StepStore$Search" "chosen" "[I", Cond.fieldLink RX6 15 "StepStore$Search" "earlier" "[I", Cond.fieldLink RX6 18 "StepStore$Search" "notAfter" "[I", Cond.fieldLink RX6 21 "StepStore$Search" "wordsBehind" "[I", Cond.fieldLink RX6 24 "StepStore$Search" "ofPart" "[I"]
def wsX3_init_r2 : List Cond := [Cond.fieldLink RX6 27 "StepStore$Search" "rooms" "[I", Cond.arrayClass .byte, Cond.fieldLink RX6 30 "StepStore$Search" "tooFew" "[B", Cond.fieldLink RX6 34 "StepStore$Search" "rows" "LStepStore$Rows;"]
def wsX3_init : List Cond := .code yX3_init cX3_init 2 none :: ((wsX3_init_r1 ++ wsX3_init_r2) ++ wsX30 ++ wsX60)
def wsX6_learnParts : List Cond := .code yX6_learnParts cX6_learnParts 4 none :: ([.fieldLink RX6 24 "StepStore$Search" "ofPart" "[I", .fieldLink RX6 27 "StepStore$Search" "rooms" "[I", .fieldLink RX6 43 "StepStore$Search" "length" "I", .fieldLink RX6 34 "StepStore$Search" "rows" "LStepStore$Rows;", .methodLink RX6 62 yJ7_fill_53178, .static yJ7_fill_53178, .initialized RJ7, .code yJ7_fill_53178 cJ7_fill_53178 4 none, .static yX7_slot, .initialized RX7, .code yX7_slot cX7_slot 2 (some .int), .methodLink RX6 71 yX5_partOf, .instanceMethod yX5_partOf, .selects RX5 yX5_partOf yX5_partOf, .initialized RX5, .code yX5_partOf cX5_partOf 2 (some .int), .fieldLink RX5 15 "StepStore$Rows" "kinds" "[I"] ++ wsX60 ++ wsX50)
def wsX5_canTrap : List Cond := .code yX5_canTrap cX5_canTrap 3 (some .boolean) :: ([.fieldLink RX5 15 "StepStore$Rows" "kinds" "[I"] ++ wsX50)
def wsX5_need : List Cond := .code yX5_need cX5_need 3 (some .int) :: ([.fieldLink RX5 30 "StepStore$Rows" "writes" "[I", .fieldLink RX5 27 "StepStore$Rows" "reads" "[I", .fieldLink RX5 15 "StepStore$Rows" "kinds" "[I", .methodLink RX5 56 yX5_canTrap, .instanceMethod yX5_canTrap, .selects RX5 yX5_canTrap yX5_canTrap, .initialized RX5, .code yX5_canTrap cX5_canTrap 3 (some .boolean)] ++ wsX50)
def wsX6_learnNeeds_r1 : List Cond := [Cond.fieldLink RX6 15 "StepStore$Search" "earlier" "[I", Cond.fieldLink RX6 18 "StepStore$Search" "notAfter" "[I", Cond.fieldLink RX6 21 "StepStore$Search" "wordsBehind" "[I", Cond.fieldLink RX6 43 "StepStore$Search" "length" "I", Cond.fieldLink RX6 34 "StepStore$Search" "rows" "LStepStore$Rows;", Cond.methodLink RX6 78 Lib.Math.max.name, Cond.static Lib.Math.max.name, Cond.initialized "java/lang/Math", Cond.code Lib.Math.max.name Lib.Math.max.code 2 (some .int), Cond.methodLink RX6 62 yJ7_fill_53178, Cond.static yJ7_fill_53178, Cond.initialized RJ7, Cond.code yJ7_fill_53178 cJ7_fill_53178 4 none, Cond.static yX7_slot, Cond.initialized RX7, Cond.code yX7_slot cX7_slot 2 (some .int), Cond.methodLink RX6 75 yX5_need, Cond.instanceMethod yX5_need, Cond.selects RX5 yX5_need yX5_need, Cond.initialized RX5, Cond.code yX5_need cX5_need 3 (some .int), Cond.fieldLink RX5 30 "StepStore$Rows" "writes" "[I", Cond.fieldLink RX5 27 "StepStore$Rows" "reads" "[I", Cond.fieldLink RX5 15 "StepStore$Rows" "kinds" "[I"]
def wsX6_learnNeeds_r2 : List Cond := [Cond.methodLink RX5 56 yX5_canTrap, Cond.instanceMethod yX5_canTrap, Cond.selects RX5 yX5_canTrap yX5_canTrap, Cond.code yX5_canTrap cX5_canTrap 3 (some .boolean)]
def wsX6_learnNeeds : List Cond := .code yX6_learnNeeds cX6_learnNeeds 5 none :: ((wsX6_learnNeeds_r1 ++ wsX6_learnNeeds_r2) ++ wsX60 ++ wsX50)
def wsX6_areTooMany : List Cond := .code yX6_areTooMany cX6_areTooMany 4 (some .boolean) :: ([.fieldLink RX6 24 "StepStore$Search" "ofPart" "[I", .fieldLink RX6 27 "StepStore$Search" "rooms" "[I", .fieldLink RX6 43 "StepStore$Search" "length" "I", .fieldLink RX6 21 "StepStore$Search" "wordsBehind" "[I", .methodLink RX6 97 yJ6_bitCount_0f7a4, .static yJ6_bitCount_0f7a4, .initialized RJ6, .code yJ6_bitCount_0f7a4 cJ6_bitCount_0f7a4 1 (some .int), .constant RJ6 265 (1431655765), .constant RJ6 266 (858993459), .constant RJ6 267 (252645135), .static yX7_isIn, .initialized RX7, .code yX7_isIn cX7_isIn 2 (some .boolean)] ++ wsX60)
def wsX6_readyAfter : List Cond := .code yX6_readyAfter cX6_readyAfter 5 (some .int) :: ([.fieldLink RX6 43 "StepStore$Search" "length" "I", .fieldLink RX6 15 "StepStore$Search" "earlier" "[I", .fieldLink RX6 18 "StepStore$Search" "notAfter" "[I", .static yX7_isIn, .initialized RX7, .code yX7_isIn cX7_isIn 2 (some .boolean)] ++ wsX60)
def wsX6_urgentOf : List Cond := .code yX6_urgentOf cX6_urgentOf 5 (some .int) :: ([.fieldLink RX6 43 "StepStore$Search" "length" "I", .fieldLink RX6 21 "StepStore$Search" "wordsBehind" "[I", .static yX7_isIn, .initialized RX7, .code yX7_isIn cX7_isIn 2 (some .boolean)] ++ wsX60)
def wsX6_canMeet : List Cond := .code yX6_canMeet cX6_canMeet 5 (some .boolean) :: ([.fieldLink RX6 24 "StepStore$Search" "ofPart" "[I", .fieldLink RX6 27 "StepStore$Search" "rooms" "[I", .fieldLink RX6 43 "StepStore$Search" "length" "I", .fieldLink RX6 18 "StepStore$Search" "notAfter" "[I", .methodLink RX6 97 yJ6_bitCount_0f7a4, .static yJ6_bitCount_0f7a4, .initialized RJ6, .code yJ6_bitCount_0f7a4 cJ6_bitCount_0f7a4 1 (some .int), .constant RJ6 265 (1431655765), .constant RJ6 266 (858993459), .constant RJ6 267 (252645135), .static yX7_isIn, .initialized RX7, .code yX7_isIn cX7_isIn 2 (some .boolean)] ++ wsX60)
def wsX6_fill_r1 : List Cond := [Cond.fieldLink RX6 43 "StepStore$Search" "length" "I", Cond.fieldLink RX6 55 "StepStore$Search" "words" "I", Cond.fieldLink RX6 30 "StepStore$Search" "tooFew" "[B", Cond.fieldLink RX6 9 "StepStore$Search" "chosen" "[I", Cond.methodLink RX6 83 yX6_areTooMany, Cond.instanceMethod yX6_areTooMany, Cond.selects RX6 yX6_areTooMany yX6_areTooMany, Cond.initialized RX6, Cond.code yX6_areTooMany cX6_areTooMany 4 (some .boolean), Cond.fieldLink RX6 24 "StepStore$Search" "ofPart" "[I", Cond.fieldLink RX6 27 "StepStore$Search" "rooms" "[I", Cond.fieldLink RX6 21 "StepStore$Search" "wordsBehind" "[I", Cond.methodLink RX6 97 yJ6_bitCount_0f7a4, Cond.static yJ6_bitCount_0f7a4, Cond.initialized RJ6, Cond.code yJ6_bitCount_0f7a4 cJ6_bitCount_0f7a4 1 (some .int), Cond.constant RJ6 265 (1431655765), Cond.constant RJ6 266 (858993459), Cond.constant RJ6 267 (252645135), Cond.static yX7_isIn, Cond.initialized RX7, Cond.code yX7_isIn cX7_isIn 2 (some .boolean), Cond.methodLink RX6 87 yX6_readyAfter, Cond.instanceMethod yX6_readyAfter]
def wsX6_fill_r2 : List Cond := [Cond.selects RX6 yX6_readyAfter yX6_readyAfter, Cond.code yX6_readyAfter cX6_readyAfter 5 (some .int), Cond.fieldLink RX6 15 "StepStore$Search" "earlier" "[I", Cond.fieldLink RX6 18 "StepStore$Search" "notAfter" "[I", Cond.methodLink RX6 90 yX6_urgentOf, Cond.instanceMethod yX6_urgentOf, Cond.selects RX6 yX6_urgentOf yX6_urgentOf, Cond.code yX6_urgentOf cX6_urgentOf 5 (some .int), Cond.methodLink RX6 93 yX6_canMeet, Cond.instanceMethod yX6_canMeet, Cond.selects RX6 yX6_canMeet yX6_canMeet, Cond.code yX6_canMeet cX6_canMeet 5 (some .boolean), Cond.methodLink RX6 58 yX6_fill, Cond.static yX6_fill]
def wsX6_fill : List Cond := .code yX6_fill cX6_fill 11 (some .boolean) :: ((wsX6_fill_r1 ++ wsX6_fill_r2) ++ wsX60)
def wsX6_solve_r1 : List Cond := [Cond.fieldLink RX6 34 "StepStore$Search" "rows" "LStepStore$Rows;", Cond.fieldLink RX6 38 "StepStore$Rows" "lengths" "[I", Cond.fieldLink RX6 43 "StepStore$Search" "length" "I", Cond.fieldLink RX6 30 "StepStore$Search" "tooFew" "[B", Cond.fieldLink RX6 55 "StepStore$Search" "words" "I", Cond.methodLink RX6 47 yX6_learnParts, Cond.instanceMethod yX6_learnParts, Cond.selects RX6 yX6_learnParts yX6_learnParts, Cond.initialized RX6, Cond.code yX6_learnParts cX6_learnParts 4 none, Cond.fieldLink RX6 24 "StepStore$Search" "ofPart" "[I", Cond.fieldLink RX6 27 "StepStore$Search" "rooms" "[I", Cond.methodLink RX6 62 yJ7_fill_53178, Cond.static yJ7_fill_53178, Cond.initialized RJ7, Cond.code yJ7_fill_53178 cJ7_fill_53178 4 none, Cond.static yX7_slot, Cond.initialized RX7, Cond.code yX7_slot cX7_slot 2 (some .int), Cond.methodLink RX6 71 yX5_partOf, Cond.instanceMethod yX5_partOf, Cond.selects RX5 yX5_partOf yX5_partOf, Cond.initialized RX5, Cond.code yX5_partOf cX5_partOf 2 (some .int)]
def wsX6_solve_r2 : List Cond := [Cond.fieldLink RX5 15 "StepStore$Rows" "kinds" "[I", Cond.methodLink RX6 51 yX6_learnNeeds, Cond.instanceMethod yX6_learnNeeds, Cond.selects RX6 yX6_learnNeeds yX6_learnNeeds, Cond.code yX6_learnNeeds cX6_learnNeeds 5 none, Cond.fieldLink RX6 15 "StepStore$Search" "earlier" "[I", Cond.fieldLink RX6 18 "StepStore$Search" "notAfter" "[I", Cond.fieldLink RX6 21 "StepStore$Search" "wordsBehind" "[I", Cond.methodLink RX6 78 Lib.Math.max.name, Cond.static Lib.Math.max.name, Cond.initialized "java/lang/Math", Cond.code Lib.Math.max.name Lib.Math.max.code 2 (some .int), Cond.methodLink RX6 75 yX5_need, Cond.instanceMethod yX5_need, Cond.selects RX5 yX5_need yX5_need, Cond.code yX5_need cX5_need 3 (some .int), Cond.fieldLink RX5 30 "StepStore$Rows" "writes" "[I", Cond.fieldLink RX5 27 "StepStore$Rows" "reads" "[I", Cond.methodLink RX5 56 yX5_canTrap, Cond.instanceMethod yX5_canTrap, Cond.selects RX5 yX5_canTrap yX5_canTrap, Cond.code yX5_canTrap cX5_canTrap 3 (some .boolean), Cond.methodLink RX6 58 yX6_fill, Cond.static yX6_fill]
def wsX6_solve_r3 : List Cond := [Cond.code yX6_fill cX6_fill 11 (some .boolean), Cond.fieldLink RX6 9 "StepStore$Search" "chosen" "[I", Cond.methodLink RX6 83 yX6_areTooMany, Cond.instanceMethod yX6_areTooMany, Cond.selects RX6 yX6_areTooMany yX6_areTooMany, Cond.code yX6_areTooMany cX6_areTooMany 4 (some .boolean), Cond.methodLink RX6 97 yJ6_bitCount_0f7a4, Cond.static yJ6_bitCount_0f7a4, Cond.initialized RJ6, Cond.code yJ6_bitCount_0f7a4 cJ6_bitCount_0f7a4 1 (some .int), Cond.constant RJ6 265 (1431655765), Cond.constant RJ6 266 (858993459), Cond.constant RJ6 267 (252645135), Cond.static yX7_isIn, Cond.code yX7_isIn cX7_isIn 2 (some .boolean), Cond.methodLink RX6 87 yX6_readyAfter, Cond.instanceMethod yX6_readyAfter, Cond.selects RX6 yX6_readyAfter yX6_readyAfter, Cond.code yX6_readyAfter cX6_readyAfter 5 (some .int), Cond.methodLink RX6 90 yX6_urgentOf, Cond.instanceMethod yX6_urgentOf, Cond.selects RX6 yX6_urgentOf yX6_urgentOf, Cond.code yX6_urgentOf cX6_urgentOf 5 (some .int), Cond.methodLink RX6 93 yX6_canMeet]
def wsX6_solve_r4 : List Cond := [Cond.instanceMethod yX6_canMeet, Cond.selects RX6 yX6_canMeet yX6_canMeet, Cond.code yX6_canMeet cX6_canMeet 5 (some .boolean)]
def wsX6_solve : List Cond := .code yX6_solve cX6_solve 4 (some .int) :: ((wsX6_solve_r1 ++ (wsX6_solve_r2 ++ (wsX6_solve_r3 ++ wsX6_solve_r4))) ++ wsX60 ++ wsX50)
def wsX3_make_r1 : List Cond := [Cond.fieldLink RX3 9 "StepStore$Packing" "made" "[Z", Cond.fieldLink RX3 38 "StepStore$Packing" "search" "LStepStore$Search;", Cond.fieldLink RX3 25 "StepStore$Packing" "buses" "I", Cond.fieldLink RX3 46 "StepStore$Search" "chosen" "[I", Cond.fieldLink RX3 22 "StepStore$Packing" "actsOf" "[I", Cond.fieldLink RX3 19 "StepStore$Packing" "wordOf" "[I", Cond.fieldLink RX3 15 "StepStore$Packing" "lengths" "[I", Cond.methodLink RX3 42 yX6_solve, Cond.instanceMethod yX6_solve, Cond.selects RX6 yX6_solve yX6_solve, Cond.initialized RX6, Cond.code yX6_solve cX6_solve 4 (some .int), Cond.fieldLink RX6 34 "StepStore$Search" "rows" "LStepStore$Rows;", Cond.fieldLink RX6 38 "StepStore$Rows" "lengths" "[I", Cond.fieldLink RX6 43 "StepStore$Search" "length" "I", Cond.fieldLink RX6 30 "StepStore$Search" "tooFew" "[B", Cond.fieldLink RX6 55 "StepStore$Search" "words" "I", Cond.methodLink RX6 47 yX6_learnParts, Cond.instanceMethod yX6_learnParts, Cond.selects RX6 yX6_learnParts yX6_learnParts, Cond.code yX6_learnParts cX6_learnParts 4 none, Cond.fieldLink RX6 24 "StepStore$Search" "ofPart" "[I", Cond.fieldLink RX6 27 "StepStore$Search" "rooms" "[I", Cond.methodLink RX6 62 yJ7_fill_53178]
def wsX3_make_r2 : List Cond := [Cond.static yJ7_fill_53178, Cond.initialized RJ7, Cond.code yJ7_fill_53178 cJ7_fill_53178 4 none, Cond.static yX7_slot, Cond.initialized RX7, Cond.code yX7_slot cX7_slot 2 (some .int), Cond.methodLink RX6 71 yX5_partOf, Cond.instanceMethod yX5_partOf, Cond.selects RX5 yX5_partOf yX5_partOf, Cond.initialized RX5, Cond.code yX5_partOf cX5_partOf 2 (some .int), Cond.fieldLink RX5 15 "StepStore$Rows" "kinds" "[I", Cond.methodLink RX6 51 yX6_learnNeeds, Cond.instanceMethod yX6_learnNeeds, Cond.selects RX6 yX6_learnNeeds yX6_learnNeeds, Cond.code yX6_learnNeeds cX6_learnNeeds 5 none, Cond.fieldLink RX6 15 "StepStore$Search" "earlier" "[I", Cond.fieldLink RX6 18 "StepStore$Search" "notAfter" "[I", Cond.fieldLink RX6 21 "StepStore$Search" "wordsBehind" "[I", Cond.methodLink RX6 78 Lib.Math.max.name, Cond.static Lib.Math.max.name, Cond.initialized "java/lang/Math", Cond.code Lib.Math.max.name Lib.Math.max.code 2 (some .int), Cond.methodLink RX6 75 yX5_need]
def wsX3_make_r3 : List Cond := [Cond.instanceMethod yX5_need, Cond.selects RX5 yX5_need yX5_need, Cond.code yX5_need cX5_need 3 (some .int), Cond.fieldLink RX5 30 "StepStore$Rows" "writes" "[I", Cond.fieldLink RX5 27 "StepStore$Rows" "reads" "[I", Cond.methodLink RX5 56 yX5_canTrap, Cond.instanceMethod yX5_canTrap, Cond.selects RX5 yX5_canTrap yX5_canTrap, Cond.code yX5_canTrap cX5_canTrap 3 (some .boolean), Cond.methodLink RX6 58 yX6_fill, Cond.static yX6_fill, Cond.code yX6_fill cX6_fill 11 (some .boolean), Cond.fieldLink RX6 9 "StepStore$Search" "chosen" "[I", Cond.methodLink RX6 83 yX6_areTooMany, Cond.instanceMethod yX6_areTooMany, Cond.selects RX6 yX6_areTooMany yX6_areTooMany, Cond.code yX6_areTooMany cX6_areTooMany 4 (some .boolean), Cond.methodLink RX6 97 yJ6_bitCount_0f7a4, Cond.static yJ6_bitCount_0f7a4, Cond.initialized RJ6, Cond.code yJ6_bitCount_0f7a4 cJ6_bitCount_0f7a4 1 (some .int), Cond.constant RJ6 265 (1431655765), Cond.constant RJ6 266 (858993459), Cond.constant RJ6 267 (252645135)]
def wsX3_make_r4 : List Cond := [Cond.static yX7_isIn, Cond.code yX7_isIn cX7_isIn 2 (some .boolean), Cond.methodLink RX6 87 yX6_readyAfter, Cond.instanceMethod yX6_readyAfter, Cond.selects RX6 yX6_readyAfter yX6_readyAfter, Cond.code yX6_readyAfter cX6_readyAfter 5 (some .int), Cond.methodLink RX6 90 yX6_urgentOf, Cond.instanceMethod yX6_urgentOf, Cond.selects RX6 yX6_urgentOf yX6_urgentOf, Cond.code yX6_urgentOf cX6_urgentOf 5 (some .int), Cond.methodLink RX6 93 yX6_canMeet, Cond.instanceMethod yX6_canMeet, Cond.selects RX6 yX6_canMeet yX6_canMeet, Cond.code yX6_canMeet cX6_canMeet 5 (some .boolean)]
def wsX3_make : List Cond := .code yX3_make cX3_make 6 none :: ((wsX3_make_r1 ++ (wsX3_make_r2 ++ (wsX3_make_r3 ++ wsX3_make_r4))) ++ wsX30 ++ wsX60 ++ wsX50)
def wsX3_dropAll : List Cond := .code yX3_dropAll cX3_dropAll 2 none :: ([.fieldLink RX3 9 "StepStore$Packing" "made" "[Z"] ++ wsX30)
def wsX3_holderOf : List Cond := .code yX3_holderOf cX3_holderOf 8 (some .int) :: ([.fieldLink RX3 29 "StepStore$Packing" "rows" "LStepStore$Rows;", .fieldLink RX3 19 "StepStore$Packing" "wordOf" "[I", .static yX7_slot, .initialized RX7, .code yX7_slot cX7_slot 2 (some .int), .methodLink RX3 56 yX5_need, .instanceMethod yX5_need, .selects RX5 yX5_need yX5_need, .initialized RX5, .code yX5_need cX5_need 3 (some .int), .fieldLink RX5 30 "StepStore$Rows" "writes" "[I", .fieldLink RX5 27 "StepStore$Rows" "reads" "[I", .fieldLink RX5 15 "StepStore$Rows" "kinds" "[I", .methodLink RX5 56 yX5_canTrap, .instanceMethod yX5_canTrap, .selects RX5 yX5_canTrap yX5_canTrap, .code yX5_canTrap cX5_canTrap 3 (some .boolean)] ++ wsX30 ++ wsX50)
def wsX4_init : List Cond := .code yX4_init cX4_init 3 none :: ([.methodLink RX4 3 objectInit, .instanceMethod objectInit, .code objectInit ⟨#[0xb1]⟩ 1 none, .arrayClass .int, .fieldLink RX4 9 "StepStore$Places" "owners" "[I", .fieldLink RX4 15 "StepStore$Places" "acts" "[I", .fieldLink RX4 18 "StepStore$Places" "nexts" "[I", .fieldLink RX4 21 "StepStore$Places" "users" "[I", .fieldLink RX4 24 "StepStore$Places" "placeOf" "[I", .fieldLink RX4 27 "StepStore$Places" "rows" "LStepStore$Rows;", .fieldLink RX4 31 "StepStore$Places" "packing" "LStepStore$Packing;"] ++ wsX40)
def wsX4_firstIn : List Cond := .code yX4_firstIn cX4_firstIn 3 (some .int) :: ([.static yX7_isIn, .initialized RX7, .code yX7_isIn cX7_isIn 2 (some .boolean)])
def wsX4_hasSameActs_r1 : List Cond := [Cond.fieldLink RX4 15 "StepStore$Places" "acts" "[I", Cond.fieldLink RX4 27 "StepStore$Places" "rows" "LStepStore$Rows;", Cond.fieldLink RX4 9 "StepStore$Places" "owners" "[I", Cond.methodLink RX4 63 yJ6_bitCount_0f7a4, Cond.static yJ6_bitCount_0f7a4, Cond.initialized RJ6, Cond.code yJ6_bitCount_0f7a4 cJ6_bitCount_0f7a4 1 (some .int), Cond.constant RJ6 265 (1431655765), Cond.constant RJ6 266 (858993459), Cond.constant RJ6 267 (252645135), Cond.static yX7_isIn, Cond.initialized RX7, Cond.code yX7_isIn cX7_isIn 2 (some .boolean), Cond.methodLink RX4 73 yX4_firstIn, Cond.static yX4_firstIn, Cond.initialized RX4, Cond.code yX4_firstIn cX4_firstIn 3 (some .int), Cond.static yX7_slot, Cond.code yX7_slot cX7_slot 2 (some .int), Cond.methodLink RX4 76 yX5_same, Cond.instanceMethod yX5_same, Cond.selects RX5 yX5_same yX5_same, Cond.initialized RX5, Cond.code yX5_same cX5_same 3 (some .boolean)]
def wsX4_hasSameActs_r2 : List Cond := [Cond.fieldLink RX5 15 "StepStore$Rows" "kinds" "[I", Cond.fieldLink RX5 18 "StepStore$Rows" "ds" "[I", Cond.fieldLink RX5 21 "StepStore$Rows" "xs" "[I", Cond.fieldLink RX5 24 "StepStore$Rows" "ys" "[I"]
def wsX4_hasSameActs : List Cond := .code yX4_hasSameActs cX4_hasSameActs 7 (some .boolean) :: ((wsX4_hasSameActs_r1 ++ wsX4_hasSameActs_r2) ++ wsX40 ++ wsX50)
def wsX4_findOrAdd_r1 : List Cond := [Cond.fieldLink RX4 35 "StepStore$Places" "length" "I", Cond.fieldLink RX4 18 "StepStore$Places" "nexts" "[I", Cond.fieldLink RX4 9 "StepStore$Places" "owners" "[I", Cond.fieldLink RX4 15 "StepStore$Places" "acts" "[I", Cond.fieldLink RX4 21 "StepStore$Places" "users" "[I", Cond.methodLink RX4 59 yX4_hasSameActs, Cond.instanceMethod yX4_hasSameActs, Cond.selects RX4 yX4_hasSameActs yX4_hasSameActs, Cond.initialized RX4, Cond.code yX4_hasSameActs cX4_hasSameActs 7 (some .boolean), Cond.fieldLink RX4 27 "StepStore$Places" "rows" "LStepStore$Rows;", Cond.methodLink RX4 63 yJ6_bitCount_0f7a4, Cond.static yJ6_bitCount_0f7a4, Cond.initialized RJ6, Cond.code yJ6_bitCount_0f7a4 cJ6_bitCount_0f7a4 1 (some .int), Cond.constant RJ6 265 (1431655765), Cond.constant RJ6 266 (858993459), Cond.constant RJ6 267 (252645135), Cond.static yX7_isIn, Cond.initialized RX7, Cond.code yX7_isIn cX7_isIn 2 (some .boolean), Cond.methodLink RX4 73 yX4_firstIn, Cond.static yX4_firstIn, Cond.code yX4_firstIn cX4_firstIn 3 (some .int)]
def wsX4_findOrAdd_r2 : List Cond := [Cond.static yX7_slot, Cond.code yX7_slot cX7_slot 2 (some .int), Cond.methodLink RX4 76 yX5_same, Cond.instanceMethod yX5_same, Cond.selects RX5 yX5_same yX5_same, Cond.initialized RX5, Cond.code yX5_same cX5_same 3 (some .boolean), Cond.fieldLink RX5 15 "StepStore$Rows" "kinds" "[I", Cond.fieldLink RX5 18 "StepStore$Rows" "ds" "[I", Cond.fieldLink RX5 21 "StepStore$Rows" "xs" "[I", Cond.fieldLink RX5 24 "StepStore$Rows" "ys" "[I"]
def wsX4_findOrAdd : List Cond := .code yX4_findOrAdd cX4_findOrAdd 5 (some .int) :: ((wsX4_findOrAdd_r1 ++ wsX4_findOrAdd_r2) ++ wsX40 ++ wsX50)
def wsX4_make_r1 : List Cond := [Cond.fieldLink RX4 35 "StepStore$Places" "length" "I", Cond.fieldLink RX4 31 "StepStore$Places" "packing" "LStepStore$Packing;", Cond.fieldLink RX4 39 "StepStore$Packing" "lengths" "[I", Cond.fieldLink RX4 48 "StepStore$Packing" "actsOf" "[I", Cond.fieldLink RX4 21 "StepStore$Places" "users" "[I", Cond.fieldLink RX4 24 "StepStore$Places" "placeOf" "[I", Cond.fieldLink RX4 55 "StepStore$Places" "made" "Z", Cond.static yX7_slot, Cond.initialized RX7, Cond.code yX7_slot cX7_slot 2 (some .int), Cond.methodLink RX4 51 yX4_findOrAdd, Cond.instanceMethod yX4_findOrAdd, Cond.selects RX4 yX4_findOrAdd yX4_findOrAdd, Cond.initialized RX4, Cond.code yX4_findOrAdd cX4_findOrAdd 5 (some .int), Cond.fieldLink RX4 18 "StepStore$Places" "nexts" "[I", Cond.fieldLink RX4 9 "StepStore$Places" "owners" "[I", Cond.fieldLink RX4 15 "StepStore$Places" "acts" "[I", Cond.methodLink RX4 59 yX4_hasSameActs, Cond.instanceMethod yX4_hasSameActs, Cond.selects RX4 yX4_hasSameActs yX4_hasSameActs, Cond.code yX4_hasSameActs cX4_hasSameActs 7 (some .boolean), Cond.fieldLink RX4 27 "StepStore$Places" "rows" "LStepStore$Rows;", Cond.methodLink RX4 63 yJ6_bitCount_0f7a4]
def wsX4_make_r2 : List Cond := [Cond.static yJ6_bitCount_0f7a4, Cond.initialized RJ6, Cond.code yJ6_bitCount_0f7a4 cJ6_bitCount_0f7a4 1 (some .int), Cond.constant RJ6 265 (1431655765), Cond.constant RJ6 266 (858993459), Cond.constant RJ6 267 (252645135), Cond.static yX7_isIn, Cond.code yX7_isIn cX7_isIn 2 (some .boolean), Cond.methodLink RX4 73 yX4_firstIn, Cond.static yX4_firstIn, Cond.code yX4_firstIn cX4_firstIn 3 (some .int), Cond.methodLink RX4 76 yX5_same, Cond.instanceMethod yX5_same, Cond.selects RX5 yX5_same yX5_same, Cond.initialized RX5, Cond.code yX5_same cX5_same 3 (some .boolean), Cond.fieldLink RX5 15 "StepStore$Rows" "kinds" "[I", Cond.fieldLink RX5 18 "StepStore$Rows" "ds" "[I", Cond.fieldLink RX5 21 "StepStore$Rows" "xs" "[I", Cond.fieldLink RX5 24 "StepStore$Rows" "ys" "[I"]
def wsX4_make : List Cond := .code yX4_make cX4_make 5 none :: ((wsX4_make_r1 ++ wsX4_make_r2) ++ wsX40 ++ wsX30 ++ wsX50)
def wsX5_init : List Cond := .code yX5_init cX5_init 1 none :: ([.methodLink RX5 3 objectInit, .instanceMethod objectInit, .code objectInit ⟨#[0xb1]⟩ 1 none, .arrayClass .int, .fieldLink RX5 9 "StepStore$Rows" "lengths" "[I", .fieldLink RX5 15 "StepStore$Rows" "kinds" "[I", .fieldLink RX5 18 "StepStore$Rows" "ds" "[I", .fieldLink RX5 21 "StepStore$Rows" "xs" "[I", .fieldLink RX5 24 "StepStore$Rows" "ys" "[I", .fieldLink RX5 27 "StepStore$Rows" "reads" "[I", .fieldLink RX5 30 "StepStore$Rows" "writes" "[I"] ++ wsX50)
def wsX5_readsOf : List Cond := .code yX5_readsOf cX5_readsOf 4 (some .int) :: ([])
def wsX5_writesOf : List Cond := .code yX5_writesOf cX5_writesOf 3 (some .int) :: ([])
def wsX5_add : List Cond := .code yX5_add cX5_add 7 none :: ([.fieldLink RX5 9 "StepStore$Rows" "lengths" "[I", .fieldLink RX5 15 "StepStore$Rows" "kinds" "[I", .fieldLink RX5 18 "StepStore$Rows" "ds" "[I", .fieldLink RX5 21 "StepStore$Rows" "xs" "[I", .fieldLink RX5 24 "StepStore$Rows" "ys" "[I", .fieldLink RX5 27 "StepStore$Rows" "reads" "[I", .fieldLink RX5 30 "StepStore$Rows" "writes" "[I", .static yX7_slot, .initialized RX7, .code yX7_slot cX7_slot 2 (some .int), .methodLink RX5 43 yX5_readsOf, .static yX5_readsOf, .initialized RX5, .code yX5_readsOf cX5_readsOf 4 (some .int), .methodLink RX5 47 yX5_writesOf, .static yX5_writesOf, .code yX5_writesOf cX5_writesOf 3 (some .int)] ++ wsX50)
def wsX7_init_r1 : List Cond := [Cond.methodLink RX7 3 objectInit, Cond.instanceMethod objectInit, Cond.code objectInit ⟨#[0xb1]⟩ 1 none, Cond.classLink RX7 9 RX2, Cond.instantiable RX2 5, Cond.initialized RX2, Cond.fieldLink RX7 12 "StepStore" "inside" "LStepStore$Inside;", Cond.classLink RX7 16 RX5, Cond.instantiable RX5 7, Cond.initialized RX5, Cond.fieldLink RX7 19 "StepStore" "rows" "LStepStore$Rows;", Cond.classLink RX7 23 RX3, Cond.instantiable RX3 7, Cond.initialized RX3, Cond.fieldLink RX7 28 "StepStore" "packing" "LStepStore$Packing;", Cond.classLink RX7 32 RX4, Cond.instantiable RX4 9, Cond.initialized RX4, Cond.fieldLink RX7 37 "StepStore" "places" "LStepStore$Places;", Cond.classLink RX7 41 RX1, Cond.instantiable RX1 12, Cond.initialized RX1, Cond.fieldLink RX7 46 "StepStore" "fields" "LStepStore$Fields;", Cond.classLink RX7 50 RX0]
def wsX7_init_r2 : List Cond := [Cond.instantiable RX0 10, Cond.initialized RX0, Cond.fieldLink RX7 55 "StepStore" "doer" "LStepStore$Doer;", Cond.arrayClass .int, Cond.fieldLink RX7 59 "StepStore" "told" "[I", Cond.fieldLink RX7 63 "StepStore" "table" "[I", Cond.arrayClass .long, Cond.fieldLink RX7 66 "StepStore" "image" "[J", Cond.arrayClass .short, Cond.fieldLink RX7 70 "StepStore" "line" "[S", Cond.fieldLink RX7 74 "StepStore" "refused" "[I", Cond.fieldLink RX7 83 "StepStore" "lineLength" "I", Cond.methodLink RX7 11 yX2_init, Cond.instanceMethod yX2_init, Cond.code yX2_init cX2_init 1 none, Cond.methodLink RX2 3 objectInit, Cond.fieldLink RX2 9 "StepStore$Inside" "widths" "[I", Cond.fieldLink RX2 15 "StepStore$Inside" "numbers" "[J", Cond.fieldLink RX2 19 "StepStore$Inside" "oldPlaces" "[I", Cond.fieldLink RX2 22 "StepStore$Inside" "oldNumbers" "[J", Cond.methodLink RX2 25 yJ7_fill_53178, Cond.static yJ7_fill_53178, Cond.initialized RJ7, Cond.code yJ7_fill_53178 cJ7_fill_53178 4 none]
def wsX7_init_r3 : List Cond := [Cond.instanceMethod yX5_init, Cond.code yX5_init cX5_init 1 none, Cond.methodLink RX5 3 objectInit, Cond.fieldLink RX5 9 "StepStore$Rows" "lengths" "[I", Cond.fieldLink RX5 15 "StepStore$Rows" "kinds" "[I", Cond.fieldLink RX5 18 "StepStore$Rows" "ds" "[I", Cond.fieldLink RX5 21 "StepStore$Rows" "xs" "[I", Cond.fieldLink RX5 24 "StepStore$Rows" "ys" "[I", Cond.fieldLink RX5 27 "StepStore$Rows" "reads" "[I", Cond.fieldLink RX5 30 "StepStore$Rows" "writes" "[I", Cond.methodLink RX7 25 yX3_init, Cond.instanceMethod yX3_init, Cond.code yX3_init cX3_init 2 none, Cond.methodLink RX3 3 objectInit, Cond.arrayClass .boolean, Cond.fieldLink RX3 9 "StepStore$Packing" "made" "[Z", Cond.fieldLink RX3 15 "StepStore$Packing" "lengths" "[I", Cond.fieldLink RX3 19 "StepStore$Packing" "wordOf" "[I", Cond.fieldLink RX3 22 "StepStore$Packing" "actsOf" "[I", Cond.fieldLink RX3 25 "StepStore$Packing" "buses" "I", Cond.fieldLink RX3 29 "StepStore$Packing" "rows" "LStepStore$Rows;", Cond.classLink RX3 33 RX6, Cond.instantiable RX6 10, Cond.initialized RX6]
def wsX7_init_r4 : List Cond := [Cond.fieldLink RX3 38 "StepStore$Packing" "search" "LStepStore$Search;", Cond.methodLink RX3 35 yX6_init, Cond.instanceMethod yX6_init, Cond.code yX6_init cX6_init 2 none, Cond.methodLink RX6 3 objectInit, Cond.fieldLink RX6 9 "StepStore$Search" "chosen" "[I", Cond.fieldLink RX6 15 "StepStore$Search" "earlier" "[I", Cond.fieldLink RX6 18 "StepStore$Search" "notAfter" "[I", Cond.fieldLink RX6 21 "StepStore$Search" "wordsBehind" "[I", Cond.fieldLink RX6 24 "StepStore$Search" "ofPart" "[I", Cond.fieldLink RX6 27 "StepStore$Search" "rooms" "[I", Cond.arrayClass .byte, Cond.fieldLink RX6 30 "StepStore$Search" "tooFew" "[B", Cond.fieldLink RX6 34 "StepStore$Search" "rows" "LStepStore$Rows;", Cond.methodLink RX7 34 yX4_init, Cond.instanceMethod yX4_init, Cond.code yX4_init cX4_init 3 none, Cond.methodLink RX4 3 objectInit, Cond.fieldLink RX4 9 "StepStore$Places" "owners" "[I", Cond.fieldLink RX4 15 "StepStore$Places" "acts" "[I", Cond.fieldLink RX4 18 "StepStore$Places" "nexts" "[I", Cond.fieldLink RX4 21 "StepStore$Places" "users" "[I", Cond.fieldLink RX4 24 "StepStore$Places" "placeOf" "[I", Cond.fieldLink RX4 27 "StepStore$Places" "rows" "LStepStore$Rows;"]
def wsX7_init_r5 : List Cond := [Cond.fieldLink RX4 31 "StepStore$Places" "packing" "LStepStore$Packing;", Cond.methodLink RX7 43 yX1_init, Cond.instanceMethod yX1_init, Cond.code yX1_init cX1_init 3 none, Cond.methodLink RX1 3 objectInit, Cond.fieldLink RX1 9 "StepStore$Fields" "groupOf" "[I", Cond.fieldLink RX1 15 "StepStore$Fields" "seenSlots" "[I", Cond.fieldLink RX1 18 "StepStore$Fields" "seenFields" "[I", Cond.fieldLink RX1 21 "StepStore$Fields" "different" "[I", Cond.fieldLink RX1 24 "StepStore$Fields" "meets" "[I", Cond.fieldLink RX1 27 "StepStore$Fields" "fieldsOfGroup" "[I", Cond.fieldLink RX1 30 "StepStore$Fields" "actsOfGroup" "[I", Cond.fieldLink RX1 33 "StepStore$Fields" "rows" "LStepStore$Rows;", Cond.fieldLink RX1 37 "StepStore$Fields" "places" "LStepStore$Places;", Cond.methodLink RX7 52 yX0_init, Cond.instanceMethod yX0_init, Cond.code yX0_init cX0_init 4 none, Cond.methodLink RX0 3 objectInit, Cond.fieldLink RX0 9 "StepStore$Doer" "trapped" "I", Cond.fieldLink RX0 15 "StepStore$Doer" "waitingPlaces" "[I", Cond.fieldLink RX0 19 "StepStore$Doer" "waitingNumbers" "[J", Cond.fieldLink RX0 23 "StepStore$Doer" "otherEnd" "[J", Cond.fieldLink RX0 26 "StepStore$Doer" "inside" "LStepStore$Inside;", Cond.fieldLink RX0 30 "StepStore$Doer" "rows" "LStepStore$Rows;"]
def wsX7_init_r6 : List Cond := [Cond.fieldLink RX0 34 "StepStore$Doer" "packing" "LStepStore$Packing;", Cond.methodLink RX7 77 yJ7_fill_53178]
def wsX7_init : List Cond := .code yX7_init cX7_init 1 none :: ((wsX7_init_r1 ++ (wsX7_init_r2 ++ (wsX7_init_r3 ++ (wsX7_init_r4 ++ (wsX7_init_r5 ++ wsX7_init_r6))))) ++ wsX20 ++ wsX70 ++ wsX50 ++ wsX30 ++ wsX40 ++ wsX10 ++ wsX00 ++ wsX60)
def wsX7_isRegister : List Cond := .code yX7_isRegister cX7_isRegister 1 (some .boolean) :: ([])
def wsX7_refuse : List Cond := .code yX7_refuse cX7_refuse 2 (some .int) :: ([.fieldLink RX7 74 "StepStore" "refused" "[I"] ++ wsX70)
def wsX7_width : List Cond := .code yX7_width cX7_width 4 (some .int) :: ([.fieldLink RX7 12 "StepStore" "inside" "LStepStore$Inside;", .fieldLink RX7 95 "StepStore$Inside" "widths" "[I", .fieldLink RX7 98 "StepStore$Inside" "numbers" "[J", .methodLink RX7 87 yX7_isRegister, .static yX7_isRegister, .initialized RX7, .code yX7_isRegister cX7_isRegister 1 (some .boolean), .methodLink RX7 91 yX7_refuse, .instanceMethod yX7_refuse, .selects RX7 yX7_refuse yX7_refuse, .code yX7_refuse cX7_refuse 2 (some .int), .fieldLink RX7 74 "StepStore" "refused" "[I", .methodLink RX7 101 yX2_put, .instanceMethod yX2_put, .selects RX2 yX2_put yX2_put, .initialized RX2, .code yX2_put cX2_put 6 (some .int), .fieldLink RX2 15 "StepStore$Inside" "numbers" "[J", .methodLink RX2 31 yX2_cutFor, .instanceMethod yX2_cutFor, .selects RX2 yX2_cutFor yX2_cutFor, .code yX2_cutFor cX2_cutFor 5 (some .long), .fieldLink RX2 9 "StepStore$Inside" "widths" "[I"] ++ wsX70 ++ wsX20)
def wsX7_set : List Cond := .code yX7_set cX7_set 4 (some .int) :: ([.fieldLink RX7 12 "StepStore" "inside" "LStepStore$Inside;", .methodLink RX7 87 yX7_isRegister, .static yX7_isRegister, .initialized RX7, .code yX7_isRegister cX7_isRegister 1 (some .boolean), .methodLink RX7 91 yX7_refuse, .instanceMethod yX7_refuse, .selects RX7 yX7_refuse yX7_refuse, .code yX7_refuse cX7_refuse 2 (some .int), .fieldLink RX7 74 "StepStore" "refused" "[I", .methodLink RX7 101 yX2_put, .instanceMethod yX2_put, .selects RX2 yX2_put yX2_put, .initialized RX2, .code yX2_put cX2_put 6 (some .int), .fieldLink RX2 15 "StepStore$Inside" "numbers" "[J", .methodLink RX2 31 yX2_cutFor, .instanceMethod yX2_cutFor, .selects RX2 yX2_cutFor yX2_cutFor, .code yX2_cutFor cX2_cutFor 5 (some .long), .fieldLink RX2 9 "StepStore$Inside" "widths" "[I"] ++ wsX70 ++ wsX20)
def wsX7_register : List Cond := .code yX7_register cX7_register 2 (some .long) :: ([.fieldLink RX7 12 "StepStore" "inside" "LStepStore$Inside;", .fieldLink RX7 98 "StepStore$Inside" "numbers" "[J", .methodLink RX7 87 yX7_isRegister, .static yX7_isRegister, .initialized RX7, .code yX7_isRegister cX7_isRegister 1 (some .boolean), .methodLink RX7 91 yX7_refuse, .instanceMethod yX7_refuse, .selects RX7 yX7_refuse yX7_refuse, .code yX7_refuse cX7_refuse 2 (some .int), .fieldLink RX7 74 "StepStore" "refused" "[I"] ++ wsX70 ++ wsX20)
def wsX7_poke : List Cond := .code yX7_poke cX7_poke 4 (some .int) :: ([.fieldLink RX7 12 "StepStore" "inside" "LStepStore$Inside;", .methodLink RX7 105 yX7_isCell, .static yX7_isCell, .initialized RX7, .code yX7_isCell cX7_isCell 2 (some .boolean), .constantLong RX7 257 (64), .methodLink RX7 91 yX7_refuse, .instanceMethod yX7_refuse, .selects RX7 yX7_refuse yX7_refuse, .code yX7_refuse cX7_refuse 2 (some .int), .fieldLink RX7 74 "StepStore" "refused" "[I", .methodLink RX7 101 yX2_put, .instanceMethod yX2_put, .selects RX2 yX2_put yX2_put, .initialized RX2, .code yX2_put cX2_put 6 (some .int), .fieldLink RX2 15 "StepStore$Inside" "numbers" "[J", .methodLink RX2 31 yX2_cutFor, .instanceMethod yX2_cutFor, .selects RX2 yX2_cutFor yX2_cutFor, .code yX2_cutFor cX2_cutFor 5 (some .long), .fieldLink RX2 9 "StepStore$Inside" "widths" "[I"] ++ wsX70 ++ wsX20)
def wsX7_cell : List Cond := .code yX7_cell cX7_cell 2 (some .long) :: ([.fieldLink RX7 12 "StepStore" "inside" "LStepStore$Inside;", .fieldLink RX7 98 "StepStore$Inside" "numbers" "[J", .methodLink RX7 105 yX7_isCell, .static yX7_isCell, .initialized RX7, .code yX7_isCell cX7_isCell 2 (some .boolean), .constantLong RX7 257 (64), .methodLink RX7 91 yX7_refuse, .instanceMethod yX7_refuse, .selects RX7 yX7_refuse yX7_refuse, .code yX7_refuse cX7_refuse 2 (some .int), .fieldLink RX7 74 "StepStore" "refused" "[I"] ++ wsX70 ++ wsX20)
def wsX7_flag : List Cond := .code yX7_flag cX7_flag 4 (some .int) :: ([.fieldLink RX7 12 "StepStore" "inside" "LStepStore$Inside;", .fieldLink RX7 98 "StepStore$Inside" "numbers" "[J", .methodLink RX7 91 yX7_refuse, .instanceMethod yX7_refuse, .selects RX7 yX7_refuse yX7_refuse, .initialized RX7, .code yX7_refuse cX7_refuse 2 (some .int), .fieldLink RX7 74 "StepStore" "refused" "[I", .methodLink RX7 101 yX2_put, .instanceMethod yX2_put, .selects RX2 yX2_put yX2_put, .initialized RX2, .code yX2_put cX2_put 6 (some .int), .fieldLink RX2 15 "StepStore$Inside" "numbers" "[J", .methodLink RX2 31 yX2_cutFor, .instanceMethod yX2_cutFor, .selects RX2 yX2_cutFor yX2_cutFor, .code yX2_cutFor cX2_cutFor 5 (some .long), .fieldLink RX2 9 "StepStore$Inside" "widths" "[I"] ++ wsX70 ++ wsX20)
def wsX7_flags : List Cond := .code yX7_flags cX7_flags 1 (some .int) :: ([.fieldLink RX7 12 "StepStore" "inside" "LStepStore$Inside;", .fieldLink RX7 98 "StepStore$Inside" "numbers" "[J", .constantLong RX7 109 (2)] ++ wsX70 ++ wsX20)
def wsX7_isInstruction : List Cond := .code yX7_isInstruction cX7_isInstruction 1 (some .boolean) :: ([])
def wsX7_isOfSort : List Cond := .code yX7_isOfSort cX7_isOfSort 2 (some .boolean) :: ([.fieldLink RX7 273 "StepStore" "LEAST_OF_SORT" "[I", .fieldLink RX7 276 "StepStore" "MOST_OF_SORT" "[I"])
def wsX7_isAct : List Cond := .code yX7_isAct cX7_isAct 4 (some .boolean) :: ([.fieldLink RX7 261 "StepStore" "SORT_OF_D" "[I", .fieldLink RX7 267 "StepStore" "SORT_OF_X" "[I", .fieldLink RX7 270 "StepStore" "SORT_OF_Y" "[I", .methodLink RX7 264 yX7_isOfSort, .static yX7_isOfSort, .initialized RX7, .code yX7_isOfSort cX7_isOfSort 2 (some .boolean), .fieldLink RX7 273 "StepStore" "LEAST_OF_SORT" "[I", .fieldLink RX7 276 "StepStore" "MOST_OF_SORT" "[I"])
def wsX7_takeAwayPackedOf : List Cond := .code yX7_takeAwayPackedOf cX7_takeAwayPackedOf 2 none :: ([.fieldLink RX7 28 "StepStore" "packing" "LStepStore$Packing;", .fieldLink RX7 172 "StepStore$Packing" "made" "[Z", .fieldLink RX7 37 "StepStore" "places" "LStepStore$Places;", .fieldLink RX7 161 "StepStore$Places" "made" "Z"] ++ wsX70 ++ wsX30 ++ wsX40)
def wsX7_act_r1 : List Cond := [Cond.fieldLink RX7 19 "StepStore" "rows" "LStepStore$Rows;", Cond.fieldLink RX7 118 "StepStore$Rows" "lengths" "[I", Cond.methodLink RX7 111 yX7_isInstruction, Cond.static yX7_isInstruction, Cond.initialized RX7, Cond.code yX7_isInstruction cX7_isInstruction 1 (some .boolean), Cond.methodLink RX7 91 yX7_refuse, Cond.instanceMethod yX7_refuse, Cond.selects RX7 yX7_refuse yX7_refuse, Cond.code yX7_refuse cX7_refuse 2 (some .int), Cond.fieldLink RX7 74 "StepStore" "refused" "[I", Cond.methodLink RX7 114 yX7_isAct, Cond.static yX7_isAct, Cond.code yX7_isAct cX7_isAct 4 (some .boolean), Cond.fieldLink RX7 261 "StepStore" "SORT_OF_D" "[I", Cond.fieldLink RX7 267 "StepStore" "SORT_OF_X" "[I", Cond.fieldLink RX7 270 "StepStore" "SORT_OF_Y" "[I", Cond.methodLink RX7 264 yX7_isOfSort, Cond.static yX7_isOfSort, Cond.code yX7_isOfSort cX7_isOfSort 2 (some .boolean), Cond.fieldLink RX7 273 "StepStore" "LEAST_OF_SORT" "[I", Cond.fieldLink RX7 276 "StepStore" "MOST_OF_SORT" "[I", Cond.methodLink RX7 121 yX5_add, Cond.instanceMethod yX5_add]
def wsX7_act_r2 : List Cond := [Cond.selects RX5 yX5_add yX5_add, Cond.initialized RX5, Cond.code yX5_add cX5_add 7 none, Cond.fieldLink RX5 9 "StepStore$Rows" "lengths" "[I", Cond.fieldLink RX5 15 "StepStore$Rows" "kinds" "[I", Cond.fieldLink RX5 18 "StepStore$Rows" "ds" "[I", Cond.fieldLink RX5 21 "StepStore$Rows" "xs" "[I", Cond.fieldLink RX5 24 "StepStore$Rows" "ys" "[I", Cond.fieldLink RX5 27 "StepStore$Rows" "reads" "[I", Cond.fieldLink RX5 30 "StepStore$Rows" "writes" "[I", Cond.static yX7_slot, Cond.code yX7_slot cX7_slot 2 (some .int), Cond.methodLink RX5 43 yX5_readsOf, Cond.static yX5_readsOf, Cond.code yX5_readsOf cX5_readsOf 4 (some .int), Cond.methodLink RX5 47 yX5_writesOf, Cond.static yX5_writesOf, Cond.code yX5_writesOf cX5_writesOf 3 (some .int), Cond.methodLink RX7 125 yX7_takeAwayPackedOf, Cond.instanceMethod yX7_takeAwayPackedOf, Cond.selects RX7 yX7_takeAwayPackedOf yX7_takeAwayPackedOf, Cond.code yX7_takeAwayPackedOf cX7_takeAwayPackedOf 2 none, Cond.fieldLink RX7 28 "StepStore" "packing" "LStepStore$Packing;", Cond.fieldLink RX7 172 "StepStore$Packing" "made" "[Z"]
def wsX7_act_r3 : List Cond := [Cond.fieldLink RX7 37 "StepStore" "places" "LStepStore$Places;", Cond.fieldLink RX7 161 "StepStore$Places" "made" "Z"]
def wsX7_act : List Cond := .code yX7_act cX7_act 6 (some .int) :: ((wsX7_act_r1 ++ (wsX7_act_r2 ++ wsX7_act_r3)) ++ wsX70 ++ wsX50 ++ wsX30 ++ wsX40)
def wsX7_clear : List Cond := .code yX7_clear cX7_clear 3 (some .int) :: ([.fieldLink RX7 19 "StepStore" "rows" "LStepStore$Rows;", .fieldLink RX7 118 "StepStore$Rows" "lengths" "[I", .methodLink RX7 111 yX7_isInstruction, .static yX7_isInstruction, .initialized RX7, .code yX7_isInstruction cX7_isInstruction 1 (some .boolean), .methodLink RX7 91 yX7_refuse, .instanceMethod yX7_refuse, .selects RX7 yX7_refuse yX7_refuse, .code yX7_refuse cX7_refuse 2 (some .int), .fieldLink RX7 74 "StepStore" "refused" "[I", .methodLink RX7 125 yX7_takeAwayPackedOf, .instanceMethod yX7_takeAwayPackedOf, .selects RX7 yX7_takeAwayPackedOf yX7_takeAwayPackedOf, .code yX7_takeAwayPackedOf cX7_takeAwayPackedOf 2 none, .fieldLink RX7 28 "StepStore" "packing" "LStepStore$Packing;", .fieldLink RX7 172 "StepStore$Packing" "made" "[Z", .fieldLink RX7 37 "StepStore" "places" "LStepStore$Places;", .fieldLink RX7 161 "StepStore$Places" "made" "Z"] ++ wsX70 ++ wsX50 ++ wsX30 ++ wsX40)
def wsX7_hasAct : List Cond := .code yX7_hasAct cX7_hasAct 3 (some .boolean) :: ([.fieldLink RX7 19 "StepStore" "rows" "LStepStore$Rows;", .fieldLink RX7 118 "StepStore$Rows" "lengths" "[I", .methodLink RX7 111 yX7_isInstruction, .static yX7_isInstruction, .initialized RX7, .code yX7_isInstruction cX7_isInstruction 1 (some .boolean)] ++ wsX70 ++ wsX50)
def wsX7_look_r1 : List Cond := [Cond.fieldLink RX7 19 "StepStore" "rows" "LStepStore$Rows;", Cond.fieldLink RX7 137 "StepStore$Rows" "kinds" "[I", Cond.fieldLink RX7 140 "StepStore$Rows" "ds" "[I", Cond.fieldLink RX7 143 "StepStore$Rows" "xs" "[I", Cond.fieldLink RX7 146 "StepStore$Rows" "ys" "[I", Cond.methodLink RX7 129 yX7_hasAct, Cond.instanceMethod yX7_hasAct, Cond.selects RX7 yX7_hasAct yX7_hasAct, Cond.initialized RX7, Cond.code yX7_hasAct cX7_hasAct 3 (some .boolean), Cond.fieldLink RX7 118 "StepStore$Rows" "lengths" "[I", Cond.methodLink RX7 111 yX7_isInstruction, Cond.static yX7_isInstruction, Cond.code yX7_isInstruction cX7_isInstruction 1 (some .boolean), Cond.methodLink RX7 91 yX7_refuse, Cond.instanceMethod yX7_refuse, Cond.selects RX7 yX7_refuse yX7_refuse, Cond.code yX7_refuse cX7_refuse 2 (some .int), Cond.fieldLink RX7 74 "StepStore" "refused" "[I", Cond.methodLink RX7 133 yX7_slot, Cond.static yX7_slot, Cond.code yX7_slot cX7_slot 2 (some .int), Cond.methodLink RX7 149 yX5_partOf, Cond.instanceMethod yX5_partOf]
def wsX7_look_r2 : List Cond := [Cond.selects RX5 yX5_partOf yX5_partOf, Cond.initialized RX5, Cond.code yX5_partOf cX5_partOf 2 (some .int), Cond.fieldLink RX5 15 "StepStore$Rows" "kinds" "[I", Cond.methodLink RX7 152 yX5_canTrap, Cond.instanceMethod yX5_canTrap, Cond.selects RX5 yX5_canTrap yX5_canTrap, Cond.code yX5_canTrap cX5_canTrap 3 (some .boolean)]
def wsX7_look : List Cond := .code yX7_look cX7_look 5 (some .int) :: ((wsX7_look_r1 ++ wsX7_look_r2) ++ wsX70 ++ wsX50)
def wsX7_buses : List Cond := .code yX7_buses cX7_buses 3 (some .int) :: ([.fieldLink RX7 28 "StepStore" "packing" "LStepStore$Packing;", .fieldLink RX7 155 "StepStore$Packing" "buses" "I", .fieldLink RX7 37 "StepStore" "places" "LStepStore$Places;", .fieldLink RX7 161 "StepStore$Places" "made" "Z", .methodLink RX7 91 yX7_refuse, .instanceMethod yX7_refuse, .selects RX7 yX7_refuse yX7_refuse, .initialized RX7, .code yX7_refuse cX7_refuse 2 (some .int), .fieldLink RX7 74 "StepStore" "refused" "[I", .methodLink RX7 158 yX3_dropAll, .instanceMethod yX3_dropAll, .selects RX3 yX3_dropAll yX3_dropAll, .initialized RX3, .code yX3_dropAll cX3_dropAll 2 none, .fieldLink RX3 9 "StepStore$Packing" "made" "[Z"] ++ wsX70 ++ wsX30 ++ wsX40)
def wsX7_needs_r1 : List Cond := [Cond.fieldLink RX7 19 "StepStore" "rows" "LStepStore$Rows;", Cond.methodLink RX7 129 yX7_hasAct, Cond.instanceMethod yX7_hasAct, Cond.selects RX7 yX7_hasAct yX7_hasAct, Cond.initialized RX7, Cond.code yX7_hasAct cX7_hasAct 3 (some .boolean), Cond.fieldLink RX7 118 "StepStore$Rows" "lengths" "[I", Cond.methodLink RX7 111 yX7_isInstruction, Cond.static yX7_isInstruction, Cond.code yX7_isInstruction cX7_isInstruction 1 (some .boolean), Cond.methodLink RX7 91 yX7_refuse, Cond.instanceMethod yX7_refuse, Cond.selects RX7 yX7_refuse yX7_refuse, Cond.code yX7_refuse cX7_refuse 2 (some .int), Cond.fieldLink RX7 74 "StepStore" "refused" "[I", Cond.methodLink RX7 133 yX7_slot, Cond.static yX7_slot, Cond.code yX7_slot cX7_slot 2 (some .int), Cond.methodLink RX7 165 yX5_need, Cond.instanceMethod yX5_need, Cond.selects RX5 yX5_need yX5_need, Cond.initialized RX5, Cond.code yX5_need cX5_need 3 (some .int), Cond.fieldLink RX5 30 "StepStore$Rows" "writes" "[I"]
def wsX7_needs_r2 : List Cond := [Cond.fieldLink RX5 27 "StepStore$Rows" "reads" "[I", Cond.fieldLink RX5 15 "StepStore$Rows" "kinds" "[I", Cond.methodLink RX5 56 yX5_canTrap, Cond.instanceMethod yX5_canTrap, Cond.selects RX5 yX5_canTrap yX5_canTrap, Cond.code yX5_canTrap cX5_canTrap 3 (some .boolean)]
def wsX7_needs : List Cond := .code yX7_needs cX7_needs 4 (some .int) :: ((wsX7_needs_r1 ++ wsX7_needs_r2) ++ wsX70 ++ wsX50)
def wsX7_pack_r1 : List Cond := [Cond.fieldLink RX7 28 "StepStore" "packing" "LStepStore$Packing;", Cond.fieldLink RX7 171 "StepStore$Packing" "lengths" "[I", Cond.methodLink RX7 111 yX7_isInstruction, Cond.static yX7_isInstruction, Cond.initialized RX7, Cond.code yX7_isInstruction cX7_isInstruction 1 (some .boolean), Cond.methodLink RX7 91 yX7_refuse, Cond.instanceMethod yX7_refuse, Cond.selects RX7 yX7_refuse yX7_refuse, Cond.code yX7_refuse cX7_refuse 2 (some .int), Cond.fieldLink RX7 74 "StepStore" "refused" "[I", Cond.methodLink RX7 168 yX3_make, Cond.instanceMethod yX3_make, Cond.selects RX3 yX3_make yX3_make, Cond.initialized RX3, Cond.code yX3_make cX3_make 6 none, Cond.fieldLink RX3 9 "StepStore$Packing" "made" "[Z", Cond.fieldLink RX3 38 "StepStore$Packing" "search" "LStepStore$Search;", Cond.fieldLink RX3 25 "StepStore$Packing" "buses" "I", Cond.fieldLink RX3 46 "StepStore$Search" "chosen" "[I", Cond.fieldLink RX3 22 "StepStore$Packing" "actsOf" "[I", Cond.fieldLink RX3 19 "StepStore$Packing" "wordOf" "[I", Cond.fieldLink RX3 15 "StepStore$Packing" "lengths" "[I", Cond.methodLink RX3 42 yX6_solve]
def wsX7_pack_r2 : List Cond := [Cond.instanceMethod yX6_solve, Cond.selects RX6 yX6_solve yX6_solve, Cond.initialized RX6, Cond.code yX6_solve cX6_solve 4 (some .int), Cond.fieldLink RX6 34 "StepStore$Search" "rows" "LStepStore$Rows;", Cond.fieldLink RX6 38 "StepStore$Rows" "lengths" "[I", Cond.fieldLink RX6 43 "StepStore$Search" "length" "I", Cond.fieldLink RX6 30 "StepStore$Search" "tooFew" "[B", Cond.fieldLink RX6 55 "StepStore$Search" "words" "I", Cond.methodLink RX6 47 yX6_learnParts, Cond.instanceMethod yX6_learnParts, Cond.selects RX6 yX6_learnParts yX6_learnParts, Cond.code yX6_learnParts cX6_learnParts 4 none, Cond.fieldLink RX6 24 "StepStore$Search" "ofPart" "[I", Cond.fieldLink RX6 27 "StepStore$Search" "rooms" "[I", Cond.methodLink RX6 62 yJ7_fill_53178, Cond.static yJ7_fill_53178, Cond.initialized RJ7, Cond.code yJ7_fill_53178 cJ7_fill_53178 4 none, Cond.static yX7_slot, Cond.code yX7_slot cX7_slot 2 (some .int), Cond.methodLink RX6 71 yX5_partOf, Cond.instanceMethod yX5_partOf, Cond.selects RX5 yX5_partOf yX5_partOf]
def wsX7_pack_r3 : List Cond := [Cond.initialized RX5, Cond.code yX5_partOf cX5_partOf 2 (some .int), Cond.fieldLink RX5 15 "StepStore$Rows" "kinds" "[I", Cond.methodLink RX6 51 yX6_learnNeeds, Cond.instanceMethod yX6_learnNeeds, Cond.selects RX6 yX6_learnNeeds yX6_learnNeeds, Cond.code yX6_learnNeeds cX6_learnNeeds 5 none, Cond.fieldLink RX6 15 "StepStore$Search" "earlier" "[I", Cond.fieldLink RX6 18 "StepStore$Search" "notAfter" "[I", Cond.fieldLink RX6 21 "StepStore$Search" "wordsBehind" "[I", Cond.methodLink RX6 78 Lib.Math.max.name, Cond.static Lib.Math.max.name, Cond.initialized "java/lang/Math", Cond.code Lib.Math.max.name Lib.Math.max.code 2 (some .int), Cond.methodLink RX6 75 yX5_need, Cond.instanceMethod yX5_need, Cond.selects RX5 yX5_need yX5_need, Cond.code yX5_need cX5_need 3 (some .int), Cond.fieldLink RX5 30 "StepStore$Rows" "writes" "[I", Cond.fieldLink RX5 27 "StepStore$Rows" "reads" "[I", Cond.methodLink RX5 56 yX5_canTrap, Cond.instanceMethod yX5_canTrap, Cond.selects RX5 yX5_canTrap yX5_canTrap, Cond.code yX5_canTrap cX5_canTrap 3 (some .boolean)]
def wsX7_pack_r4 : List Cond := [Cond.methodLink RX6 58 yX6_fill, Cond.static yX6_fill, Cond.code yX6_fill cX6_fill 11 (some .boolean), Cond.fieldLink RX6 9 "StepStore$Search" "chosen" "[I", Cond.methodLink RX6 83 yX6_areTooMany, Cond.instanceMethod yX6_areTooMany, Cond.selects RX6 yX6_areTooMany yX6_areTooMany, Cond.code yX6_areTooMany cX6_areTooMany 4 (some .boolean), Cond.methodLink RX6 97 yJ6_bitCount_0f7a4, Cond.static yJ6_bitCount_0f7a4, Cond.initialized RJ6, Cond.code yJ6_bitCount_0f7a4 cJ6_bitCount_0f7a4 1 (some .int), Cond.constant RJ6 265 (1431655765), Cond.constant RJ6 266 (858993459), Cond.constant RJ6 267 (252645135), Cond.static yX7_isIn, Cond.code yX7_isIn cX7_isIn 2 (some .boolean), Cond.methodLink RX6 87 yX6_readyAfter, Cond.instanceMethod yX6_readyAfter, Cond.selects RX6 yX6_readyAfter yX6_readyAfter, Cond.code yX6_readyAfter cX6_readyAfter 5 (some .int), Cond.methodLink RX6 90 yX6_urgentOf, Cond.instanceMethod yX6_urgentOf, Cond.selects RX6 yX6_urgentOf yX6_urgentOf]
def wsX7_pack_r5 : List Cond := [Cond.code yX6_urgentOf cX6_urgentOf 5 (some .int), Cond.methodLink RX6 93 yX6_canMeet, Cond.instanceMethod yX6_canMeet, Cond.selects RX6 yX6_canMeet yX6_canMeet, Cond.code yX6_canMeet cX6_canMeet 5 (some .boolean)]
def wsX7_pack : List Cond := .code yX7_pack cX7_pack 2 (some .int) :: ((wsX7_pack_r1 ++ (wsX7_pack_r2 ++ (wsX7_pack_r3 ++ (wsX7_pack_r4 ++ wsX7_pack_r5)))) ++ wsX70 ++ wsX30 ++ wsX60 ++ wsX50)
def wsX7_word : List Cond := .code yX7_word cX7_word 3 (some .int) :: ([.fieldLink RX7 28 "StepStore" "packing" "LStepStore$Packing;", .fieldLink RX7 172 "StepStore$Packing" "made" "[Z", .fieldLink RX7 175 "StepStore$Packing" "wordOf" "[I", .methodLink RX7 129 yX7_hasAct, .instanceMethod yX7_hasAct, .selects RX7 yX7_hasAct yX7_hasAct, .initialized RX7, .code yX7_hasAct cX7_hasAct 3 (some .boolean), .fieldLink RX7 19 "StepStore" "rows" "LStepStore$Rows;", .fieldLink RX7 118 "StepStore$Rows" "lengths" "[I", .methodLink RX7 111 yX7_isInstruction, .static yX7_isInstruction, .code yX7_isInstruction cX7_isInstruction 1 (some .boolean), .methodLink RX7 91 yX7_refuse, .instanceMethod yX7_refuse, .selects RX7 yX7_refuse yX7_refuse, .code yX7_refuse cX7_refuse 2 (some .int), .fieldLink RX7 74 "StepStore" "refused" "[I", .methodLink RX7 133 yX7_slot, .static yX7_slot, .code yX7_slot cX7_slot 2 (some .int)] ++ wsX70 ++ wsX30 ++ wsX50)
def wsX7_why_r1 : List Cond := [Cond.fieldLink RX7 28 "StepStore" "packing" "LStepStore$Packing;", Cond.fieldLink RX7 172 "StepStore$Packing" "made" "[Z", Cond.methodLink RX7 129 yX7_hasAct, Cond.instanceMethod yX7_hasAct, Cond.selects RX7 yX7_hasAct yX7_hasAct, Cond.initialized RX7, Cond.code yX7_hasAct cX7_hasAct 3 (some .boolean), Cond.fieldLink RX7 19 "StepStore" "rows" "LStepStore$Rows;", Cond.fieldLink RX7 118 "StepStore$Rows" "lengths" "[I", Cond.methodLink RX7 111 yX7_isInstruction, Cond.static yX7_isInstruction, Cond.code yX7_isInstruction cX7_isInstruction 1 (some .boolean), Cond.methodLink RX7 91 yX7_refuse, Cond.instanceMethod yX7_refuse, Cond.selects RX7 yX7_refuse yX7_refuse, Cond.code yX7_refuse cX7_refuse 2 (some .int), Cond.fieldLink RX7 74 "StepStore" "refused" "[I", Cond.methodLink RX7 178 yX3_holderOf, Cond.instanceMethod yX3_holderOf, Cond.selects RX3 yX3_holderOf yX3_holderOf, Cond.initialized RX3, Cond.code yX3_holderOf cX3_holderOf 8 (some .int), Cond.fieldLink RX3 29 "StepStore$Packing" "rows" "LStepStore$Rows;", Cond.fieldLink RX3 19 "StepStore$Packing" "wordOf" "[I"]
def wsX7_why_r2 : List Cond := [Cond.static yX7_slot, Cond.code yX7_slot cX7_slot 2 (some .int), Cond.methodLink RX3 56 yX5_need, Cond.instanceMethod yX5_need, Cond.selects RX5 yX5_need yX5_need, Cond.initialized RX5, Cond.code yX5_need cX5_need 3 (some .int), Cond.fieldLink RX5 30 "StepStore$Rows" "writes" "[I", Cond.fieldLink RX5 27 "StepStore$Rows" "reads" "[I", Cond.fieldLink RX5 15 "StepStore$Rows" "kinds" "[I", Cond.methodLink RX5 56 yX5_canTrap, Cond.instanceMethod yX5_canTrap, Cond.selects RX5 yX5_canTrap yX5_canTrap, Cond.code yX5_canTrap cX5_canTrap 3 (some .boolean)]
def wsX7_why : List Cond := .code yX7_why cX7_why 3 (some .int) :: ((wsX7_why_r1 ++ wsX7_why_r2) ++ wsX70 ++ wsX30 ++ wsX50)
def wsX7_store_r1 : List Cond := [Cond.fieldLink RX7 37 "StepStore" "places" "LStepStore$Places;", Cond.fieldLink RX7 161 "StepStore$Places" "made" "Z", Cond.fieldLink RX7 28 "StepStore" "packing" "LStepStore$Packing;", Cond.fieldLink RX7 46 "StepStore" "fields" "LStepStore$Fields;", Cond.fieldLink RX7 184 "StepStore$Places" "length" "I", Cond.methodLink RX7 168 yX3_make, Cond.instanceMethod yX3_make, Cond.selects RX3 yX3_make yX3_make, Cond.initialized RX3, Cond.code yX3_make cX3_make 6 none, Cond.fieldLink RX3 9 "StepStore$Packing" "made" "[Z", Cond.fieldLink RX3 38 "StepStore$Packing" "search" "LStepStore$Search;", Cond.fieldLink RX3 25 "StepStore$Packing" "buses" "I", Cond.fieldLink RX3 46 "StepStore$Search" "chosen" "[I", Cond.fieldLink RX3 22 "StepStore$Packing" "actsOf" "[I", Cond.fieldLink RX3 19 "StepStore$Packing" "wordOf" "[I", Cond.fieldLink RX3 15 "StepStore$Packing" "lengths" "[I", Cond.methodLink RX3 42 yX6_solve, Cond.instanceMethod yX6_solve, Cond.selects RX6 yX6_solve yX6_solve, Cond.initialized RX6, Cond.code yX6_solve cX6_solve 4 (some .int), Cond.fieldLink RX6 34 "StepStore$Search" "rows" "LStepStore$Rows;", Cond.fieldLink RX6 38 "StepStore$Rows" "lengths" "[I"]
def wsX7_store_r2 : List Cond := [Cond.fieldLink RX6 43 "StepStore$Search" "length" "I", Cond.fieldLink RX6 30 "StepStore$Search" "tooFew" "[B", Cond.fieldLink RX6 55 "StepStore$Search" "words" "I", Cond.methodLink RX6 47 yX6_learnParts, Cond.instanceMethod yX6_learnParts, Cond.selects RX6 yX6_learnParts yX6_learnParts, Cond.code yX6_learnParts cX6_learnParts 4 none, Cond.fieldLink RX6 24 "StepStore$Search" "ofPart" "[I", Cond.fieldLink RX6 27 "StepStore$Search" "rooms" "[I", Cond.methodLink RX6 62 yJ7_fill_53178, Cond.static yJ7_fill_53178, Cond.initialized RJ7, Cond.code yJ7_fill_53178 cJ7_fill_53178 4 none, Cond.static yX7_slot, Cond.initialized RX7, Cond.code yX7_slot cX7_slot 2 (some .int), Cond.methodLink RX6 71 yX5_partOf, Cond.instanceMethod yX5_partOf, Cond.selects RX5 yX5_partOf yX5_partOf, Cond.initialized RX5, Cond.code yX5_partOf cX5_partOf 2 (some .int), Cond.fieldLink RX5 15 "StepStore$Rows" "kinds" "[I", Cond.methodLink RX6 51 yX6_learnNeeds, Cond.instanceMethod yX6_learnNeeds]
def wsX7_store_r3 : List Cond := [Cond.selects RX6 yX6_learnNeeds yX6_learnNeeds, Cond.code yX6_learnNeeds cX6_learnNeeds 5 none, Cond.fieldLink RX6 15 "StepStore$Search" "earlier" "[I", Cond.fieldLink RX6 18 "StepStore$Search" "notAfter" "[I", Cond.fieldLink RX6 21 "StepStore$Search" "wordsBehind" "[I", Cond.methodLink RX6 78 Lib.Math.max.name, Cond.static Lib.Math.max.name, Cond.initialized "java/lang/Math", Cond.code Lib.Math.max.name Lib.Math.max.code 2 (some .int), Cond.methodLink RX6 75 yX5_need, Cond.instanceMethod yX5_need, Cond.selects RX5 yX5_need yX5_need, Cond.code yX5_need cX5_need 3 (some .int), Cond.fieldLink RX5 30 "StepStore$Rows" "writes" "[I", Cond.fieldLink RX5 27 "StepStore$Rows" "reads" "[I", Cond.methodLink RX5 56 yX5_canTrap, Cond.instanceMethod yX5_canTrap, Cond.selects RX5 yX5_canTrap yX5_canTrap, Cond.code yX5_canTrap cX5_canTrap 3 (some .boolean), Cond.methodLink RX6 58 yX6_fill, Cond.static yX6_fill, Cond.code yX6_fill cX6_fill 11 (some .boolean), Cond.fieldLink RX6 9 "StepStore$Search" "chosen" "[I", Cond.methodLink RX6 83 yX6_areTooMany]
def wsX7_store_r4 : List Cond := [Cond.instanceMethod yX6_areTooMany, Cond.selects RX6 yX6_areTooMany yX6_areTooMany, Cond.code yX6_areTooMany cX6_areTooMany 4 (some .boolean), Cond.methodLink RX6 97 yJ6_bitCount_0f7a4, Cond.static yJ6_bitCount_0f7a4, Cond.initialized RJ6, Cond.code yJ6_bitCount_0f7a4 cJ6_bitCount_0f7a4 1 (some .int), Cond.constant RJ6 265 (1431655765), Cond.constant RJ6 266 (858993459), Cond.constant RJ6 267 (252645135), Cond.static yX7_isIn, Cond.code yX7_isIn cX7_isIn 2 (some .boolean), Cond.methodLink RX6 87 yX6_readyAfter, Cond.instanceMethod yX6_readyAfter, Cond.selects RX6 yX6_readyAfter yX6_readyAfter, Cond.code yX6_readyAfter cX6_readyAfter 5 (some .int), Cond.methodLink RX6 90 yX6_urgentOf, Cond.instanceMethod yX6_urgentOf, Cond.selects RX6 yX6_urgentOf yX6_urgentOf, Cond.code yX6_urgentOf cX6_urgentOf 5 (some .int), Cond.methodLink RX6 93 yX6_canMeet, Cond.instanceMethod yX6_canMeet, Cond.selects RX6 yX6_canMeet yX6_canMeet, Cond.code yX6_canMeet cX6_canMeet 5 (some .boolean)]
def wsX7_store_r5 : List Cond := [Cond.methodLink RX7 181 yX4_make, Cond.instanceMethod yX4_make, Cond.selects RX4 yX4_make yX4_make, Cond.initialized RX4, Cond.code yX4_make cX4_make 5 none, Cond.fieldLink RX4 35 "StepStore$Places" "length" "I", Cond.fieldLink RX4 31 "StepStore$Places" "packing" "LStepStore$Packing;", Cond.fieldLink RX4 39 "StepStore$Packing" "lengths" "[I", Cond.fieldLink RX4 48 "StepStore$Packing" "actsOf" "[I", Cond.fieldLink RX4 21 "StepStore$Places" "users" "[I", Cond.fieldLink RX4 24 "StepStore$Places" "placeOf" "[I", Cond.fieldLink RX4 55 "StepStore$Places" "made" "Z", Cond.methodLink RX4 51 yX4_findOrAdd, Cond.instanceMethod yX4_findOrAdd, Cond.selects RX4 yX4_findOrAdd yX4_findOrAdd, Cond.code yX4_findOrAdd cX4_findOrAdd 5 (some .int), Cond.fieldLink RX4 18 "StepStore$Places" "nexts" "[I", Cond.fieldLink RX4 9 "StepStore$Places" "owners" "[I", Cond.fieldLink RX4 15 "StepStore$Places" "acts" "[I", Cond.methodLink RX4 59 yX4_hasSameActs, Cond.instanceMethod yX4_hasSameActs, Cond.selects RX4 yX4_hasSameActs yX4_hasSameActs, Cond.code yX4_hasSameActs cX4_hasSameActs 7 (some .boolean), Cond.fieldLink RX4 27 "StepStore$Places" "rows" "LStepStore$Rows;"]
def wsX7_store_r6 : List Cond := [Cond.methodLink RX4 63 yJ6_bitCount_0f7a4, Cond.methodLink RX4 73 yX4_firstIn, Cond.static yX4_firstIn, Cond.code yX4_firstIn cX4_firstIn 3 (some .int), Cond.methodLink RX4 76 yX5_same, Cond.instanceMethod yX5_same, Cond.selects RX5 yX5_same yX5_same, Cond.code yX5_same cX5_same 3 (some .boolean), Cond.fieldLink RX5 18 "StepStore$Rows" "ds" "[I", Cond.fieldLink RX5 21 "StepStore$Rows" "xs" "[I", Cond.fieldLink RX5 24 "StepStore$Rows" "ys" "[I", Cond.methodLink RX7 183 yX1_make, Cond.instanceMethod yX1_make, Cond.selects RX1 yX1_make yX1_make, Cond.initialized RX1, Cond.code yX1_make cX1_make 2 none, Cond.fieldLink RX1 41 "StepStore$Fields" "seen" "I", Cond.fieldLink RX1 21 "StepStore$Fields" "different" "[I", Cond.fieldLink RX1 24 "StepStore$Fields" "meets" "[I", Cond.fieldLink RX1 37 "StepStore$Fields" "places" "LStepStore$Places;", Cond.fieldLink RX1 51 "StepStore$Places" "length" "I", Cond.fieldLink RX1 56 "StepStore$Places" "owners" "[I", Cond.fieldLink RX1 59 "StepStore$Places" "acts" "[I", Cond.fieldLink RX1 77 "StepStore$Fields" "wordBits" "I"]
def wsX7_store_r7 : List Cond := [Cond.fieldLink RX1 80 "StepStore$Fields" "groups" "I", Cond.fieldLink RX1 30 "StepStore$Fields" "actsOfGroup" "[I", Cond.methodLink RX1 45 yJ7_fill_53178, Cond.methodLink RX1 62 yX1_learnActs, Cond.instanceMethod yX1_learnActs, Cond.selects RX1 yX1_learnActs yX1_learnActs, Cond.code yX1_learnActs cX1_learnActs 9 (some .int), Cond.fieldLink RX1 33 "StepStore$Fields" "rows" "LStepStore$Rows;", Cond.methodLink RX1 90 yX5_partOf, Cond.methodLink RX1 95 yX1_addIfNew, Cond.instanceMethod yX1_addIfNew, Cond.selects RX1 yX1_addIfNew yX1_addIfNew, Cond.code yX1_addIfNew cX1_addIfNew 4 none, Cond.fieldLink RX1 18 "StepStore$Fields" "seenFields" "[I", Cond.fieldLink RX1 15 "StepStore$Fields" "seenSlots" "[I", Cond.methodLink RX1 99 yX5_same, Cond.methodLink RX1 66 yX1_learnMeetings, Cond.instanceMethod yX1_learnMeetings, Cond.selects RX1 yX1_learnMeetings yX1_learnMeetings, Cond.code yX1_learnMeetings cX1_learnMeetings 3 none, Cond.methodLink RX1 70 yX1_makeGroups, Cond.instanceMethod yX1_makeGroups, Cond.selects RX1 yX1_makeGroups yX1_makeGroups, Cond.code yX1_makeGroups cX1_makeGroups 3 none]
def wsX7_store_r8 : List Cond := [Cond.fieldLink RX1 27 "StepStore$Fields" "fieldsOfGroup" "[I", Cond.fieldLink RX1 9 "StepStore$Fields" "groupOf" "[I", Cond.methodLink RX1 105 Lib.Math.max.name, Cond.methodLink RX1 102 yX1_firstGroupFor, Cond.instanceMethod yX1_firstGroupFor, Cond.selects RX1 yX1_firstGroupFor yX1_firstGroupFor, Cond.code yX1_firstGroupFor cX1_firstGroupFor 3 (some .int), Cond.methodLink RX1 73 yX1_bitsToTell, Cond.static yX1_bitsToTell, Cond.code yX1_bitsToTell cX1_bitsToTell 3 (some .int)]
def wsX7_store : List Cond := .code yX7_store cX7_store 2 (some .int) :: ((wsX7_store_r1 ++ (wsX7_store_r2 ++ (wsX7_store_r3 ++ (wsX7_store_r4 ++ (wsX7_store_r5 ++ (wsX7_store_r6 ++ (wsX7_store_r7 ++ wsX7_store_r8))))))) ++ wsX70 ++ wsX40 ++ wsX30 ++ wsX60 ++ wsX50 ++ wsX10)
def wsX7_place : List Cond := .code yX7_place cX7_place 3 (some .int) :: ([.fieldLink RX7 37 "StepStore" "places" "LStepStore$Places;", .fieldLink RX7 161 "StepStore$Places" "made" "Z", .fieldLink RX7 28 "StepStore" "packing" "LStepStore$Packing;", .fieldLink RX7 171 "StepStore$Packing" "lengths" "[I", .fieldLink RX7 187 "StepStore$Places" "placeOf" "[I", .methodLink RX7 111 yX7_isInstruction, .static yX7_isInstruction, .initialized RX7, .code yX7_isInstruction cX7_isInstruction 1 (some .boolean), .methodLink RX7 91 yX7_refuse, .instanceMethod yX7_refuse, .selects RX7 yX7_refuse yX7_refuse, .code yX7_refuse cX7_refuse 2 (some .int), .fieldLink RX7 74 "StepStore" "refused" "[I", .methodLink RX7 133 yX7_slot, .static yX7_slot, .code yX7_slot cX7_slot 2 (some .int)] ++ wsX70 ++ wsX40 ++ wsX30)
def wsX7_at : List Cond := .code yX7_at cX7_at 3 (some .int) :: ([.fieldLink RX7 37 "StepStore" "places" "LStepStore$Places;", .fieldLink RX7 161 "StepStore$Places" "made" "Z", .fieldLink RX7 184 "StepStore$Places" "length" "I", .fieldLink RX7 190 "StepStore$Places" "acts" "[I", .fieldLink RX7 198 "StepStore$Places" "nexts" "[I", .fieldLink RX7 201 "StepStore$Places" "users" "[I", .methodLink RX7 91 yX7_refuse, .instanceMethod yX7_refuse, .selects RX7 yX7_refuse yX7_refuse, .initialized RX7, .code yX7_refuse cX7_refuse 2 (some .int), .fieldLink RX7 74 "StepStore" "refused" "[I", .methodLink RX7 193 yJ6_bitCount_0f7a4, .static yJ6_bitCount_0f7a4, .initialized RJ6, .code yJ6_bitCount_0f7a4 cJ6_bitCount_0f7a4 1 (some .int), .constant RJ6 265 (1431655765), .constant RJ6 266 (858993459), .constant RJ6 267 (252645135)] ++ wsX70 ++ wsX40)
def wsX7_group : List Cond := .code yX7_group cX7_group 2 (some .int) :: ([.fieldLink RX7 37 "StepStore" "places" "LStepStore$Places;", .fieldLink RX7 161 "StepStore$Places" "made" "Z", .fieldLink RX7 46 "StepStore" "fields" "LStepStore$Fields;", .fieldLink RX7 204 "StepStore$Fields" "groupOf" "[I", .methodLink RX7 91 yX7_refuse, .instanceMethod yX7_refuse, .selects RX7 yX7_refuse yX7_refuse, .initialized RX7, .code yX7_refuse cX7_refuse 2 (some .int), .fieldLink RX7 74 "StepStore" "refused" "[I"] ++ wsX70 ++ wsX40 ++ wsX10)
def wsX7_narrow : List Cond := .code yX7_narrow cX7_narrow 2 (some .int) :: ([.fieldLink RX7 37 "StepStore" "places" "LStepStore$Places;", .fieldLink RX7 161 "StepStore$Places" "made" "Z", .fieldLink RX7 46 "StepStore" "fields" "LStepStore$Fields;", .fieldLink RX7 207 "StepStore$Fields" "wordBits" "I", .fieldLink RX7 184 "StepStore$Places" "length" "I", .fieldLink RX7 210 "StepStore$Fields" "groups" "I", .fieldLink RX7 213 "StepStore$Fields" "seen" "I", .methodLink RX7 91 yX7_refuse, .instanceMethod yX7_refuse, .selects RX7 yX7_refuse yX7_refuse, .initialized RX7, .code yX7_refuse cX7_refuse 2 (some .int), .fieldLink RX7 74 "StepStore" "refused" "[I"] ++ wsX70 ++ wsX40 ++ wsX10)
def wsX7_keepTold : List Cond := .code yX7_keepTold cX7_keepTold 1 none :: ([.fieldLink RX7 59 "StepStore" "told" "[I", .fieldLink RX7 55 "StepStore" "doer" "LStepStore$Doer;", .fieldLink RX7 248 "StepStore$Doer" "actsDone" "I", .fieldLink RX7 251 "StepStore$Doer" "wordsDone" "I", .fieldLink RX7 254 "StepStore$Doer" "trapped" "I"] ++ wsX70 ++ wsX00)
def wsX7_run_r1 : List Cond := [Cond.fieldLink RX7 28 "StepStore" "packing" "LStepStore$Packing;", Cond.fieldLink RX7 55 "StepStore" "doer" "LStepStore$Doer;", Cond.methodLink RX7 111 yX7_isInstruction, Cond.static yX7_isInstruction, Cond.initialized RX7, Cond.code yX7_isInstruction cX7_isInstruction 1 (some .boolean), Cond.methodLink RX7 91 yX7_refuse, Cond.instanceMethod yX7_refuse, Cond.selects RX7 yX7_refuse yX7_refuse, Cond.code yX7_refuse cX7_refuse 2 (some .int), Cond.fieldLink RX7 74 "StepStore" "refused" "[I", Cond.methodLink RX7 168 yX3_make, Cond.instanceMethod yX3_make, Cond.selects RX3 yX3_make yX3_make, Cond.initialized RX3, Cond.code yX3_make cX3_make 6 none, Cond.fieldLink RX3 9 "StepStore$Packing" "made" "[Z", Cond.fieldLink RX3 38 "StepStore$Packing" "search" "LStepStore$Search;", Cond.fieldLink RX3 25 "StepStore$Packing" "buses" "I", Cond.fieldLink RX3 46 "StepStore$Search" "chosen" "[I", Cond.fieldLink RX3 22 "StepStore$Packing" "actsOf" "[I", Cond.fieldLink RX3 19 "StepStore$Packing" "wordOf" "[I", Cond.fieldLink RX3 15 "StepStore$Packing" "lengths" "[I", Cond.methodLink RX3 42 yX6_solve]
def wsX7_run_r2 : List Cond := [Cond.instanceMethod yX6_solve, Cond.selects RX6 yX6_solve yX6_solve, Cond.initialized RX6, Cond.code yX6_solve cX6_solve 4 (some .int), Cond.fieldLink RX6 34 "StepStore$Search" "rows" "LStepStore$Rows;", Cond.fieldLink RX6 38 "StepStore$Rows" "lengths" "[I", Cond.fieldLink RX6 43 "StepStore$Search" "length" "I", Cond.fieldLink RX6 30 "StepStore$Search" "tooFew" "[B", Cond.fieldLink RX6 55 "StepStore$Search" "words" "I", Cond.methodLink RX6 47 yX6_learnParts, Cond.instanceMethod yX6_learnParts, Cond.selects RX6 yX6_learnParts yX6_learnParts, Cond.code yX6_learnParts cX6_learnParts 4 none, Cond.fieldLink RX6 24 "StepStore$Search" "ofPart" "[I", Cond.fieldLink RX6 27 "StepStore$Search" "rooms" "[I", Cond.methodLink RX6 62 yJ7_fill_53178, Cond.static yJ7_fill_53178, Cond.initialized RJ7, Cond.code yJ7_fill_53178 cJ7_fill_53178 4 none, Cond.static yX7_slot, Cond.code yX7_slot cX7_slot 2 (some .int), Cond.methodLink RX6 71 yX5_partOf, Cond.instanceMethod yX5_partOf, Cond.selects RX5 yX5_partOf yX5_partOf]
def wsX7_run_r3 : List Cond := [Cond.initialized RX5, Cond.code yX5_partOf cX5_partOf 2 (some .int), Cond.fieldLink RX5 15 "StepStore$Rows" "kinds" "[I", Cond.methodLink RX6 51 yX6_learnNeeds, Cond.instanceMethod yX6_learnNeeds, Cond.selects RX6 yX6_learnNeeds yX6_learnNeeds, Cond.code yX6_learnNeeds cX6_learnNeeds 5 none, Cond.fieldLink RX6 15 "StepStore$Search" "earlier" "[I", Cond.fieldLink RX6 18 "StepStore$Search" "notAfter" "[I", Cond.fieldLink RX6 21 "StepStore$Search" "wordsBehind" "[I", Cond.methodLink RX6 78 Lib.Math.max.name, Cond.static Lib.Math.max.name, Cond.initialized "java/lang/Math", Cond.code Lib.Math.max.name Lib.Math.max.code 2 (some .int), Cond.methodLink RX6 75 yX5_need, Cond.instanceMethod yX5_need, Cond.selects RX5 yX5_need yX5_need, Cond.code yX5_need cX5_need 3 (some .int), Cond.fieldLink RX5 30 "StepStore$Rows" "writes" "[I", Cond.fieldLink RX5 27 "StepStore$Rows" "reads" "[I", Cond.methodLink RX5 56 yX5_canTrap, Cond.instanceMethod yX5_canTrap, Cond.selects RX5 yX5_canTrap yX5_canTrap, Cond.code yX5_canTrap cX5_canTrap 3 (some .boolean)]
def wsX7_run_r4 : List Cond := [Cond.methodLink RX6 58 yX6_fill, Cond.static yX6_fill, Cond.code yX6_fill cX6_fill 11 (some .boolean), Cond.fieldLink RX6 9 "StepStore$Search" "chosen" "[I", Cond.methodLink RX6 83 yX6_areTooMany, Cond.instanceMethod yX6_areTooMany, Cond.selects RX6 yX6_areTooMany yX6_areTooMany, Cond.code yX6_areTooMany cX6_areTooMany 4 (some .boolean), Cond.methodLink RX6 97 yJ6_bitCount_0f7a4, Cond.static yJ6_bitCount_0f7a4, Cond.initialized RJ6, Cond.code yJ6_bitCount_0f7a4 cJ6_bitCount_0f7a4 1 (some .int), Cond.constant RJ6 265 (1431655765), Cond.constant RJ6 266 (858993459), Cond.constant RJ6 267 (252645135), Cond.static yX7_isIn, Cond.code yX7_isIn cX7_isIn 2 (some .boolean), Cond.methodLink RX6 87 yX6_readyAfter, Cond.instanceMethod yX6_readyAfter, Cond.selects RX6 yX6_readyAfter yX6_readyAfter, Cond.code yX6_readyAfter cX6_readyAfter 5 (some .int), Cond.methodLink RX6 90 yX6_urgentOf, Cond.instanceMethod yX6_urgentOf, Cond.selects RX6 yX6_urgentOf yX6_urgentOf]
def wsX7_run_r5 : List Cond := [Cond.code yX6_urgentOf cX6_urgentOf 5 (some .int), Cond.methodLink RX6 93 yX6_canMeet, Cond.instanceMethod yX6_canMeet, Cond.selects RX6 yX6_canMeet yX6_canMeet, Cond.code yX6_canMeet cX6_canMeet 5 (some .boolean), Cond.methodLink RX7 216 yX0_perform, Cond.instanceMethod yX0_perform, Cond.selects RX0 yX0_perform yX0_perform, Cond.initialized RX0, Cond.code yX0_perform cX0_perform 7 (some .int), Cond.fieldLink RX0 26 "StepStore$Doer" "inside" "LStepStore$Inside;", Cond.fieldLink RX0 9 "StepStore$Doer" "trapped" "I", Cond.fieldLink RX0 43 "StepStore$Doer" "actsDone" "I", Cond.fieldLink RX0 46 "StepStore$Doer" "wordsDone" "I", Cond.fieldLink RX0 34 "StepStore$Doer" "packing" "LStepStore$Packing;", Cond.fieldLink RX0 49 "StepStore$Packing" "lengths" "[I", Cond.fieldLink RX0 30 "StepStore$Doer" "rows" "LStepStore$Rows;", Cond.fieldLink RX0 54 "StepStore$Rows" "lengths" "[I", Cond.fieldLink RX0 57 "StepStore$Packing" "actsOf" "[I", Cond.methodLink RX0 38 yX2_forgetOlds, Cond.instanceMethod yX2_forgetOlds, Cond.selects RX2 yX2_forgetOlds yX2_forgetOlds, Cond.initialized RX2, Cond.code yX2_forgetOlds cX2_forgetOlds 1 none]
def wsX7_run_r6 : List Cond := [Cond.fieldLink RX2 35 "StepStore$Inside" "olds" "I", Cond.methodLink RX0 64 yX0_doTogether, Cond.instanceMethod yX0_doTogether, Cond.selects RX0 yX0_doTogether yX0_doTogether, Cond.code yX0_doTogether cX0_doTogether 6 (some .int), Cond.fieldLink RX0 93 "StepStore$Doer" "waiting" "I", Cond.fieldLink RX0 15 "StepStore$Doer" "waitingPlaces" "[I", Cond.fieldLink RX0 19 "StepStore$Doer" "waitingNumbers" "[J", Cond.methodLink RX0 100 yX0_take, Cond.instanceMethod yX0_take, Cond.selects RX0 yX0_take yX0_take, Cond.code yX0_take cX0_take 5 (some .int), Cond.fieldLink RX0 107 "StepStore$Rows" "ds" "[I", Cond.fieldLink RX0 110 "StepStore$Rows" "xs" "[I", Cond.fieldLink RX0 113 "StepStore$Rows" "ys" "[I", Cond.fieldLink RX0 116 "StepStore$Rows" "kinds" "[I", Cond.fieldLink RX0 77 "StepStore$Inside" "numbers" "[J", Cond.methodLink RX0 119 yX0_putLater, Cond.instanceMethod yX0_putLater, Cond.selects RX0 yX0_putLater yX0_putLater, Cond.code yX0_putLater cX0_putLater 4 none, Cond.methodLink RX0 122 yX0_fetch, Cond.instanceMethod yX0_fetch, Cond.selects RX0 yX0_fetch yX0_fetch]
def wsX7_run_r7 : List Cond := [Cond.code yX0_fetch cX0_fetch 4 (some .int), Cond.static yX7_isCell, Cond.code yX7_isCell cX7_isCell 2 (some .boolean), Cond.constantLong RX7 257 (64), Cond.methodLink RX0 126 yX0_keep, Cond.instanceMethod yX0_keep, Cond.selects RX0 yX0_keep yX0_keep, Cond.code yX0_keep cX0_keep 5 (some .int), Cond.methodLink RX0 130 yX0_work, Cond.instanceMethod yX0_work, Cond.selects RX0 yX0_work yX0_work, Cond.code yX0_work cX0_work 10 none, Cond.methodLink RX0 138 yX2_cutFor, Cond.instanceMethod yX2_cutFor, Cond.selects RX2 yX2_cutFor yX2_cutFor, Cond.code yX2_cutFor cX2_cutFor 5 (some .long), Cond.fieldLink RX2 9 "StepStore$Inside" "widths" "[I", Cond.methodLink RX0 86 yX2_goBack, Cond.instanceMethod yX2_goBack, Cond.selects RX2 yX2_goBack yX2_goBack, Cond.code yX2_goBack cX2_goBack 2 none, Cond.fieldLink RX2 15 "StepStore$Inside" "numbers" "[J", Cond.fieldLink RX2 19 "StepStore$Inside" "oldPlaces" "[I", Cond.fieldLink RX2 22 "StepStore$Inside" "oldNumbers" "[J"]
def wsX7_run_r8 : List Cond := [Cond.methodLink RX0 103 yX2_putAndRemember, Cond.instanceMethod yX2_putAndRemember, Cond.selects RX2 yX2_putAndRemember yX2_putAndRemember, Cond.code yX2_putAndRemember cX2_putAndRemember 4 none, Cond.methodLink RX2 39 yX2_put, Cond.instanceMethod yX2_put, Cond.selects RX2 yX2_put yX2_put, Cond.code yX2_put cX2_put 6 (some .int), Cond.methodLink RX2 31 yX2_cutFor, Cond.methodLink RX0 67 yJ6_bitCount_0f7a4, Cond.methodLink RX7 220 yX7_keepTold, Cond.instanceMethod yX7_keepTold, Cond.selects RX7 yX7_keepTold yX7_keepTold, Cond.code yX7_keepTold cX7_keepTold 1 none, Cond.fieldLink RX7 59 "StepStore" "told" "[I", Cond.fieldLink RX7 248 "StepStore$Doer" "actsDone" "I", Cond.fieldLink RX7 251 "StepStore$Doer" "wordsDone" "I", Cond.fieldLink RX7 254 "StepStore$Doer" "trapped" "I"]
def wsX7_run : List Cond := .code yX7_run cX7_run 4 (some .int) :: ((wsX7_run_r1 ++ (wsX7_run_r2 ++ (wsX7_run_r3 ++ (wsX7_run_r4 ++ (wsX7_run_r5 ++ (wsX7_run_r6 ++ (wsX7_run_r7 ++ wsX7_run_r8))))))) ++ wsX70 ++ wsX30 ++ wsX60 ++ wsX50 ++ wsX00 ++ wsX20)
def wsX7_told : List Cond := .code yX7_told cX7_told 2 (some .int) :: ([.fieldLink RX7 59 "StepStore" "told" "[I", .methodLink RX7 91 yX7_refuse, .instanceMethod yX7_refuse, .selects RX7 yX7_refuse yX7_refuse, .initialized RX7, .code yX7_refuse cX7_refuse 2 (some .int), .fieldLink RX7 74 "StepStore" "refused" "[I"] ++ wsX70)
def wsX7_beside_r1 : List Cond := [Cond.fieldLink RX7 28 "StepStore" "packing" "LStepStore$Packing;", Cond.fieldLink RX7 172 "StepStore$Packing" "made" "[Z", Cond.fieldLink RX7 55 "StepStore" "doer" "LStepStore$Doer;", Cond.methodLink RX7 111 yX7_isInstruction, Cond.static yX7_isInstruction, Cond.initialized RX7, Cond.code yX7_isInstruction cX7_isInstruction 1 (some .boolean), Cond.methodLink RX7 91 yX7_refuse, Cond.instanceMethod yX7_refuse, Cond.selects RX7 yX7_refuse yX7_refuse, Cond.code yX7_refuse cX7_refuse 2 (some .int), Cond.fieldLink RX7 74 "StepStore" "refused" "[I", Cond.methodLink RX7 168 yX3_make, Cond.instanceMethod yX3_make, Cond.selects RX3 yX3_make yX3_make, Cond.initialized RX3, Cond.code yX3_make cX3_make 6 none, Cond.fieldLink RX3 9 "StepStore$Packing" "made" "[Z", Cond.fieldLink RX3 38 "StepStore$Packing" "search" "LStepStore$Search;", Cond.fieldLink RX3 25 "StepStore$Packing" "buses" "I", Cond.fieldLink RX3 46 "StepStore$Search" "chosen" "[I", Cond.fieldLink RX3 22 "StepStore$Packing" "actsOf" "[I", Cond.fieldLink RX3 19 "StepStore$Packing" "wordOf" "[I", Cond.fieldLink RX3 15 "StepStore$Packing" "lengths" "[I"]
def wsX7_beside_r2 : List Cond := [Cond.methodLink RX3 42 yX6_solve, Cond.instanceMethod yX6_solve, Cond.selects RX6 yX6_solve yX6_solve, Cond.initialized RX6, Cond.code yX6_solve cX6_solve 4 (some .int), Cond.fieldLink RX6 34 "StepStore$Search" "rows" "LStepStore$Rows;", Cond.fieldLink RX6 38 "StepStore$Rows" "lengths" "[I", Cond.fieldLink RX6 43 "StepStore$Search" "length" "I", Cond.fieldLink RX6 30 "StepStore$Search" "tooFew" "[B", Cond.fieldLink RX6 55 "StepStore$Search" "words" "I", Cond.methodLink RX6 47 yX6_learnParts, Cond.instanceMethod yX6_learnParts, Cond.selects RX6 yX6_learnParts yX6_learnParts, Cond.code yX6_learnParts cX6_learnParts 4 none, Cond.fieldLink RX6 24 "StepStore$Search" "ofPart" "[I", Cond.fieldLink RX6 27 "StepStore$Search" "rooms" "[I", Cond.methodLink RX6 62 yJ7_fill_53178, Cond.static yJ7_fill_53178, Cond.initialized RJ7, Cond.code yJ7_fill_53178 cJ7_fill_53178 4 none, Cond.static yX7_slot, Cond.code yX7_slot cX7_slot 2 (some .int), Cond.methodLink RX6 71 yX5_partOf, Cond.instanceMethod yX5_partOf]
def wsX7_beside_r3 : List Cond := [Cond.selects RX5 yX5_partOf yX5_partOf, Cond.initialized RX5, Cond.code yX5_partOf cX5_partOf 2 (some .int), Cond.fieldLink RX5 15 "StepStore$Rows" "kinds" "[I", Cond.methodLink RX6 51 yX6_learnNeeds, Cond.instanceMethod yX6_learnNeeds, Cond.selects RX6 yX6_learnNeeds yX6_learnNeeds, Cond.code yX6_learnNeeds cX6_learnNeeds 5 none, Cond.fieldLink RX6 15 "StepStore$Search" "earlier" "[I", Cond.fieldLink RX6 18 "StepStore$Search" "notAfter" "[I", Cond.fieldLink RX6 21 "StepStore$Search" "wordsBehind" "[I", Cond.methodLink RX6 78 Lib.Math.max.name, Cond.static Lib.Math.max.name, Cond.initialized "java/lang/Math", Cond.code Lib.Math.max.name Lib.Math.max.code 2 (some .int), Cond.methodLink RX6 75 yX5_need, Cond.instanceMethod yX5_need, Cond.selects RX5 yX5_need yX5_need, Cond.code yX5_need cX5_need 3 (some .int), Cond.fieldLink RX5 30 "StepStore$Rows" "writes" "[I", Cond.fieldLink RX5 27 "StepStore$Rows" "reads" "[I", Cond.methodLink RX5 56 yX5_canTrap, Cond.instanceMethod yX5_canTrap, Cond.selects RX5 yX5_canTrap yX5_canTrap]
def wsX7_beside_r4 : List Cond := [Cond.code yX5_canTrap cX5_canTrap 3 (some .boolean), Cond.methodLink RX6 58 yX6_fill, Cond.static yX6_fill, Cond.code yX6_fill cX6_fill 11 (some .boolean), Cond.fieldLink RX6 9 "StepStore$Search" "chosen" "[I", Cond.methodLink RX6 83 yX6_areTooMany, Cond.instanceMethod yX6_areTooMany, Cond.selects RX6 yX6_areTooMany yX6_areTooMany, Cond.code yX6_areTooMany cX6_areTooMany 4 (some .boolean), Cond.methodLink RX6 97 yJ6_bitCount_0f7a4, Cond.static yJ6_bitCount_0f7a4, Cond.initialized RJ6, Cond.code yJ6_bitCount_0f7a4 cJ6_bitCount_0f7a4 1 (some .int), Cond.constant RJ6 265 (1431655765), Cond.constant RJ6 266 (858993459), Cond.constant RJ6 267 (252645135), Cond.static yX7_isIn, Cond.code yX7_isIn cX7_isIn 2 (some .boolean), Cond.methodLink RX6 87 yX6_readyAfter, Cond.instanceMethod yX6_readyAfter, Cond.selects RX6 yX6_readyAfter yX6_readyAfter, Cond.code yX6_readyAfter cX6_readyAfter 5 (some .int), Cond.methodLink RX6 90 yX6_urgentOf, Cond.instanceMethod yX6_urgentOf]
def wsX7_beside_r5 : List Cond := [Cond.selects RX6 yX6_urgentOf yX6_urgentOf, Cond.code yX6_urgentOf cX6_urgentOf 5 (some .int), Cond.methodLink RX6 93 yX6_canMeet, Cond.instanceMethod yX6_canMeet, Cond.selects RX6 yX6_canMeet yX6_canMeet, Cond.code yX6_canMeet cX6_canMeet 5 (some .boolean), Cond.methodLink RX7 223 yX0_endsAlike, Cond.instanceMethod yX0_endsAlike, Cond.selects RX0 yX0_endsAlike yX0_endsAlike, Cond.initialized RX0, Cond.code yX0_endsAlike cX0_endsAlike 4 (some .boolean), Cond.fieldLink RX0 26 "StepStore$Doer" "inside" "LStepStore$Inside;", Cond.fieldLink RX0 77 "StepStore$Inside" "numbers" "[J", Cond.fieldLink RX0 23 "StepStore$Doer" "otherEnd" "[J", Cond.methodLink RX0 80 arraycopyName, Cond.native arraycopyName, Cond.static arraycopyName, Cond.initialized "java/lang/System", Cond.methodLink RX0 73 yX0_perform, Cond.instanceMethod yX0_perform, Cond.selects RX0 yX0_perform yX0_perform, Cond.code yX0_perform cX0_perform 7 (some .int), Cond.fieldLink RX0 9 "StepStore$Doer" "trapped" "I", Cond.fieldLink RX0 43 "StepStore$Doer" "actsDone" "I"]
def wsX7_beside_r6 : List Cond := [Cond.fieldLink RX0 46 "StepStore$Doer" "wordsDone" "I", Cond.fieldLink RX0 34 "StepStore$Doer" "packing" "LStepStore$Packing;", Cond.fieldLink RX0 49 "StepStore$Packing" "lengths" "[I", Cond.fieldLink RX0 30 "StepStore$Doer" "rows" "LStepStore$Rows;", Cond.fieldLink RX0 54 "StepStore$Rows" "lengths" "[I", Cond.fieldLink RX0 57 "StepStore$Packing" "actsOf" "[I", Cond.methodLink RX0 38 yX2_forgetOlds, Cond.instanceMethod yX2_forgetOlds, Cond.selects RX2 yX2_forgetOlds yX2_forgetOlds, Cond.initialized RX2, Cond.code yX2_forgetOlds cX2_forgetOlds 1 none, Cond.fieldLink RX2 35 "StepStore$Inside" "olds" "I", Cond.methodLink RX0 64 yX0_doTogether, Cond.instanceMethod yX0_doTogether, Cond.selects RX0 yX0_doTogether yX0_doTogether, Cond.code yX0_doTogether cX0_doTogether 6 (some .int), Cond.fieldLink RX0 93 "StepStore$Doer" "waiting" "I", Cond.fieldLink RX0 15 "StepStore$Doer" "waitingPlaces" "[I", Cond.fieldLink RX0 19 "StepStore$Doer" "waitingNumbers" "[J", Cond.methodLink RX0 100 yX0_take, Cond.instanceMethod yX0_take, Cond.selects RX0 yX0_take yX0_take, Cond.code yX0_take cX0_take 5 (some .int), Cond.fieldLink RX0 107 "StepStore$Rows" "ds" "[I"]
def wsX7_beside_r7 : List Cond := [Cond.fieldLink RX0 110 "StepStore$Rows" "xs" "[I", Cond.fieldLink RX0 113 "StepStore$Rows" "ys" "[I", Cond.fieldLink RX0 116 "StepStore$Rows" "kinds" "[I", Cond.methodLink RX0 119 yX0_putLater, Cond.instanceMethod yX0_putLater, Cond.selects RX0 yX0_putLater yX0_putLater, Cond.code yX0_putLater cX0_putLater 4 none, Cond.methodLink RX0 122 yX0_fetch, Cond.instanceMethod yX0_fetch, Cond.selects RX0 yX0_fetch yX0_fetch, Cond.code yX0_fetch cX0_fetch 4 (some .int), Cond.static yX7_isCell, Cond.code yX7_isCell cX7_isCell 2 (some .boolean), Cond.constantLong RX7 257 (64), Cond.methodLink RX0 126 yX0_keep, Cond.instanceMethod yX0_keep, Cond.selects RX0 yX0_keep yX0_keep, Cond.code yX0_keep cX0_keep 5 (some .int), Cond.methodLink RX0 130 yX0_work, Cond.instanceMethod yX0_work, Cond.selects RX0 yX0_work yX0_work, Cond.code yX0_work cX0_work 10 none, Cond.methodLink RX0 138 yX2_cutFor, Cond.instanceMethod yX2_cutFor]
def wsX7_beside_r8 : List Cond := [Cond.selects RX2 yX2_cutFor yX2_cutFor, Cond.code yX2_cutFor cX2_cutFor 5 (some .long), Cond.fieldLink RX2 9 "StepStore$Inside" "widths" "[I", Cond.methodLink RX0 86 yX2_goBack, Cond.instanceMethod yX2_goBack, Cond.selects RX2 yX2_goBack yX2_goBack, Cond.code yX2_goBack cX2_goBack 2 none, Cond.fieldLink RX2 15 "StepStore$Inside" "numbers" "[J", Cond.fieldLink RX2 19 "StepStore$Inside" "oldPlaces" "[I", Cond.fieldLink RX2 22 "StepStore$Inside" "oldNumbers" "[J", Cond.methodLink RX0 103 yX2_putAndRemember, Cond.instanceMethod yX2_putAndRemember, Cond.selects RX2 yX2_putAndRemember yX2_putAndRemember, Cond.code yX2_putAndRemember cX2_putAndRemember 4 none, Cond.methodLink RX2 39 yX2_put, Cond.instanceMethod yX2_put, Cond.selects RX2 yX2_put yX2_put, Cond.code yX2_put cX2_put 6 (some .int), Cond.methodLink RX2 31 yX2_cutFor, Cond.methodLink RX0 67 yJ6_bitCount_0f7a4, Cond.methodLink RX0 89 yX0_isOtherEnd, Cond.instanceMethod yX0_isOtherEnd, Cond.selects RX0 yX0_isOtherEnd yX0_isOtherEnd, Cond.code yX0_isOtherEnd cX0_isOtherEnd 2 (some .boolean)]
def wsX7_beside : List Cond := .code yX7_beside cX7_beside 4 (some .int) :: ((wsX7_beside_r1 ++ (wsX7_beside_r2 ++ (wsX7_beside_r3 ++ (wsX7_beside_r4 ++ (wsX7_beside_r5 ++ (wsX7_beside_r6 ++ (wsX7_beside_r7 ++ wsX7_beside_r8))))))) ++ wsX70 ++ wsX30 ++ wsX60 ++ wsX50 ++ wsX00 ++ wsX20)
def wsX7_code : List Cond := .code yX7_code cX7_code 4 (some .int) :: ([.fieldLink RX7 63 "StepStore" "table" "[I", .methodLink RX7 91 yX7_refuse, .instanceMethod yX7_refuse, .selects RX7 yX7_refuse yX7_refuse, .initialized RX7, .code yX7_refuse cX7_refuse 2 (some .int), .fieldLink RX7 74 "StepStore" "refused" "[I", .methodLink RX7 111 yX7_isInstruction, .static yX7_isInstruction, .code yX7_isInstruction cX7_isInstruction 1 (some .boolean)] ++ wsX70)
def wsX7_doStep_r1 : List Cond := [Cond.fieldLink RX7 12 "StepStore" "inside" "LStepStore$Inside;", Cond.fieldLink RX7 98 "StepStore$Inside" "numbers" "[J", Cond.constantLong RX7 257 (64), Cond.fieldLink RX7 63 "StepStore" "table" "[I", Cond.constantLong RX7 259 (16), Cond.fieldLink RX7 28 "StepStore" "packing" "LStepStore$Packing;", Cond.fieldLink RX7 55 "StepStore" "doer" "LStepStore$Doer;", Cond.fieldLink RX7 236 "StepStore" "traps" "I", Cond.methodLink RX7 168 yX3_make, Cond.instanceMethod yX3_make, Cond.selects RX3 yX3_make yX3_make, Cond.initialized RX3, Cond.code yX3_make cX3_make 6 none, Cond.fieldLink RX3 9 "StepStore$Packing" "made" "[Z", Cond.fieldLink RX3 38 "StepStore$Packing" "search" "LStepStore$Search;", Cond.fieldLink RX3 25 "StepStore$Packing" "buses" "I", Cond.fieldLink RX3 46 "StepStore$Search" "chosen" "[I", Cond.fieldLink RX3 22 "StepStore$Packing" "actsOf" "[I", Cond.fieldLink RX3 19 "StepStore$Packing" "wordOf" "[I", Cond.fieldLink RX3 15 "StepStore$Packing" "lengths" "[I", Cond.methodLink RX3 42 yX6_solve, Cond.instanceMethod yX6_solve, Cond.selects RX6 yX6_solve yX6_solve, Cond.initialized RX6]
def wsX7_doStep_r2 : List Cond := [Cond.code yX6_solve cX6_solve 4 (some .int), Cond.fieldLink RX6 34 "StepStore$Search" "rows" "LStepStore$Rows;", Cond.fieldLink RX6 38 "StepStore$Rows" "lengths" "[I", Cond.fieldLink RX6 43 "StepStore$Search" "length" "I", Cond.fieldLink RX6 30 "StepStore$Search" "tooFew" "[B", Cond.fieldLink RX6 55 "StepStore$Search" "words" "I", Cond.methodLink RX6 47 yX6_learnParts, Cond.instanceMethod yX6_learnParts, Cond.selects RX6 yX6_learnParts yX6_learnParts, Cond.code yX6_learnParts cX6_learnParts 4 none, Cond.fieldLink RX6 24 "StepStore$Search" "ofPart" "[I", Cond.fieldLink RX6 27 "StepStore$Search" "rooms" "[I", Cond.methodLink RX6 62 yJ7_fill_53178, Cond.static yJ7_fill_53178, Cond.initialized RJ7, Cond.code yJ7_fill_53178 cJ7_fill_53178 4 none, Cond.static yX7_slot, Cond.initialized RX7, Cond.code yX7_slot cX7_slot 2 (some .int), Cond.methodLink RX6 71 yX5_partOf, Cond.instanceMethod yX5_partOf, Cond.selects RX5 yX5_partOf yX5_partOf, Cond.initialized RX5, Cond.code yX5_partOf cX5_partOf 2 (some .int)]
def wsX7_doStep_r3 : List Cond := [Cond.fieldLink RX5 15 "StepStore$Rows" "kinds" "[I", Cond.methodLink RX6 51 yX6_learnNeeds, Cond.instanceMethod yX6_learnNeeds, Cond.selects RX6 yX6_learnNeeds yX6_learnNeeds, Cond.code yX6_learnNeeds cX6_learnNeeds 5 none, Cond.fieldLink RX6 15 "StepStore$Search" "earlier" "[I", Cond.fieldLink RX6 18 "StepStore$Search" "notAfter" "[I", Cond.fieldLink RX6 21 "StepStore$Search" "wordsBehind" "[I", Cond.methodLink RX6 78 Lib.Math.max.name, Cond.static Lib.Math.max.name, Cond.initialized "java/lang/Math", Cond.code Lib.Math.max.name Lib.Math.max.code 2 (some .int), Cond.methodLink RX6 75 yX5_need, Cond.instanceMethod yX5_need, Cond.selects RX5 yX5_need yX5_need, Cond.code yX5_need cX5_need 3 (some .int), Cond.fieldLink RX5 30 "StepStore$Rows" "writes" "[I", Cond.fieldLink RX5 27 "StepStore$Rows" "reads" "[I", Cond.methodLink RX5 56 yX5_canTrap, Cond.instanceMethod yX5_canTrap, Cond.selects RX5 yX5_canTrap yX5_canTrap, Cond.code yX5_canTrap cX5_canTrap 3 (some .boolean), Cond.methodLink RX6 58 yX6_fill, Cond.static yX6_fill]
def wsX7_doStep_r4 : List Cond := [Cond.code yX6_fill cX6_fill 11 (some .boolean), Cond.fieldLink RX6 9 "StepStore$Search" "chosen" "[I", Cond.methodLink RX6 83 yX6_areTooMany, Cond.instanceMethod yX6_areTooMany, Cond.selects RX6 yX6_areTooMany yX6_areTooMany, Cond.code yX6_areTooMany cX6_areTooMany 4 (some .boolean), Cond.methodLink RX6 97 yJ6_bitCount_0f7a4, Cond.static yJ6_bitCount_0f7a4, Cond.initialized RJ6, Cond.code yJ6_bitCount_0f7a4 cJ6_bitCount_0f7a4 1 (some .int), Cond.constant RJ6 265 (1431655765), Cond.constant RJ6 266 (858993459), Cond.constant RJ6 267 (252645135), Cond.static yX7_isIn, Cond.code yX7_isIn cX7_isIn 2 (some .boolean), Cond.methodLink RX6 87 yX6_readyAfter, Cond.instanceMethod yX6_readyAfter, Cond.selects RX6 yX6_readyAfter yX6_readyAfter, Cond.code yX6_readyAfter cX6_readyAfter 5 (some .int), Cond.methodLink RX6 90 yX6_urgentOf, Cond.instanceMethod yX6_urgentOf, Cond.selects RX6 yX6_urgentOf yX6_urgentOf, Cond.code yX6_urgentOf cX6_urgentOf 5 (some .int), Cond.methodLink RX6 93 yX6_canMeet]
def wsX7_doStep_r5 : List Cond := [Cond.instanceMethod yX6_canMeet, Cond.selects RX6 yX6_canMeet yX6_canMeet, Cond.code yX6_canMeet cX6_canMeet 5 (some .boolean), Cond.methodLink RX7 101 yX2_put, Cond.instanceMethod yX2_put, Cond.selects RX2 yX2_put yX2_put, Cond.initialized RX2, Cond.code yX2_put cX2_put 6 (some .int), Cond.fieldLink RX2 15 "StepStore$Inside" "numbers" "[J", Cond.methodLink RX2 31 yX2_cutFor, Cond.instanceMethod yX2_cutFor, Cond.selects RX2 yX2_cutFor yX2_cutFor, Cond.code yX2_cutFor cX2_cutFor 5 (some .long), Cond.fieldLink RX2 9 "StepStore$Inside" "widths" "[I", Cond.methodLink RX7 216 yX0_perform, Cond.instanceMethod yX0_perform, Cond.selects RX0 yX0_perform yX0_perform, Cond.initialized RX0, Cond.code yX0_perform cX0_perform 7 (some .int), Cond.fieldLink RX0 26 "StepStore$Doer" "inside" "LStepStore$Inside;", Cond.fieldLink RX0 9 "StepStore$Doer" "trapped" "I", Cond.fieldLink RX0 43 "StepStore$Doer" "actsDone" "I", Cond.fieldLink RX0 46 "StepStore$Doer" "wordsDone" "I", Cond.fieldLink RX0 34 "StepStore$Doer" "packing" "LStepStore$Packing;"]
def wsX7_doStep_r6 : List Cond := [Cond.fieldLink RX0 49 "StepStore$Packing" "lengths" "[I", Cond.fieldLink RX0 30 "StepStore$Doer" "rows" "LStepStore$Rows;", Cond.fieldLink RX0 54 "StepStore$Rows" "lengths" "[I", Cond.fieldLink RX0 57 "StepStore$Packing" "actsOf" "[I", Cond.methodLink RX0 38 yX2_forgetOlds, Cond.instanceMethod yX2_forgetOlds, Cond.selects RX2 yX2_forgetOlds yX2_forgetOlds, Cond.code yX2_forgetOlds cX2_forgetOlds 1 none, Cond.fieldLink RX2 35 "StepStore$Inside" "olds" "I", Cond.methodLink RX0 64 yX0_doTogether, Cond.instanceMethod yX0_doTogether, Cond.selects RX0 yX0_doTogether yX0_doTogether, Cond.code yX0_doTogether cX0_doTogether 6 (some .int), Cond.fieldLink RX0 93 "StepStore$Doer" "waiting" "I", Cond.fieldLink RX0 15 "StepStore$Doer" "waitingPlaces" "[I", Cond.fieldLink RX0 19 "StepStore$Doer" "waitingNumbers" "[J", Cond.methodLink RX0 100 yX0_take, Cond.instanceMethod yX0_take, Cond.selects RX0 yX0_take yX0_take, Cond.code yX0_take cX0_take 5 (some .int), Cond.fieldLink RX0 107 "StepStore$Rows" "ds" "[I", Cond.fieldLink RX0 110 "StepStore$Rows" "xs" "[I", Cond.fieldLink RX0 113 "StepStore$Rows" "ys" "[I", Cond.fieldLink RX0 116 "StepStore$Rows" "kinds" "[I"]
def wsX7_doStep_r7 : List Cond := [Cond.fieldLink RX0 77 "StepStore$Inside" "numbers" "[J", Cond.methodLink RX0 119 yX0_putLater, Cond.instanceMethod yX0_putLater, Cond.selects RX0 yX0_putLater yX0_putLater, Cond.code yX0_putLater cX0_putLater 4 none, Cond.methodLink RX0 122 yX0_fetch, Cond.instanceMethod yX0_fetch, Cond.selects RX0 yX0_fetch yX0_fetch, Cond.code yX0_fetch cX0_fetch 4 (some .int), Cond.static yX7_isCell, Cond.code yX7_isCell cX7_isCell 2 (some .boolean), Cond.methodLink RX0 126 yX0_keep, Cond.instanceMethod yX0_keep, Cond.selects RX0 yX0_keep yX0_keep, Cond.code yX0_keep cX0_keep 5 (some .int), Cond.methodLink RX0 130 yX0_work, Cond.instanceMethod yX0_work, Cond.selects RX0 yX0_work yX0_work, Cond.code yX0_work cX0_work 10 none, Cond.methodLink RX0 138 yX2_cutFor, Cond.methodLink RX0 86 yX2_goBack, Cond.instanceMethod yX2_goBack, Cond.selects RX2 yX2_goBack yX2_goBack, Cond.code yX2_goBack cX2_goBack 2 none]
def wsX7_doStep_r8 : List Cond := [Cond.fieldLink RX2 19 "StepStore$Inside" "oldPlaces" "[I", Cond.fieldLink RX2 22 "StepStore$Inside" "oldNumbers" "[J", Cond.methodLink RX0 103 yX2_putAndRemember, Cond.instanceMethod yX2_putAndRemember, Cond.selects RX2 yX2_putAndRemember yX2_putAndRemember, Cond.code yX2_putAndRemember cX2_putAndRemember 4 none, Cond.methodLink RX2 39 yX2_put, Cond.methodLink RX0 67 yJ6_bitCount_0f7a4, Cond.methodLink RX7 220 yX7_keepTold, Cond.instanceMethod yX7_keepTold, Cond.selects RX7 yX7_keepTold yX7_keepTold, Cond.code yX7_keepTold cX7_keepTold 1 none, Cond.fieldLink RX7 59 "StepStore" "told" "[I", Cond.fieldLink RX7 248 "StepStore$Doer" "actsDone" "I", Cond.fieldLink RX7 251 "StepStore$Doer" "wordsDone" "I", Cond.fieldLink RX7 254 "StepStore$Doer" "trapped" "I"]
def wsX7_doStep : List Cond := .code yX7_doStep cX7_doStep 4 (some .int) :: ((wsX7_doStep_r1 ++ (wsX7_doStep_r2 ++ (wsX7_doStep_r3 ++ (wsX7_doStep_r4 ++ (wsX7_doStep_r5 ++ (wsX7_doStep_r6 ++ (wsX7_doStep_r7 ++ wsX7_doStep_r8))))))) ++ wsX70 ++ wsX20 ++ wsX30 ++ wsX60 ++ wsX50 ++ wsX00)
def wsX7_step_r1 : List Cond := [Cond.fieldLink RX7 226 "StepStore" "ended" "I", Cond.fieldLink RX7 233 "StepStore" "steps" "I", Cond.methodLink RX7 91 yX7_refuse, Cond.instanceMethod yX7_refuse, Cond.selects RX7 yX7_refuse yX7_refuse, Cond.initialized RX7, Cond.code yX7_refuse cX7_refuse 2 (some .int), Cond.fieldLink RX7 74 "StepStore" "refused" "[I", Cond.methodLink RX7 229 yX7_doStep, Cond.instanceMethod yX7_doStep, Cond.selects RX7 yX7_doStep yX7_doStep, Cond.code yX7_doStep cX7_doStep 4 (some .int), Cond.fieldLink RX7 12 "StepStore" "inside" "LStepStore$Inside;", Cond.fieldLink RX7 98 "StepStore$Inside" "numbers" "[J", Cond.constantLong RX7 257 (64), Cond.fieldLink RX7 63 "StepStore" "table" "[I", Cond.constantLong RX7 259 (16), Cond.fieldLink RX7 28 "StepStore" "packing" "LStepStore$Packing;", Cond.fieldLink RX7 55 "StepStore" "doer" "LStepStore$Doer;", Cond.fieldLink RX7 236 "StepStore" "traps" "I", Cond.methodLink RX7 168 yX3_make, Cond.instanceMethod yX3_make, Cond.selects RX3 yX3_make yX3_make, Cond.initialized RX3]
def wsX7_step_r2 : List Cond := [Cond.code yX3_make cX3_make 6 none, Cond.fieldLink RX3 9 "StepStore$Packing" "made" "[Z", Cond.fieldLink RX3 38 "StepStore$Packing" "search" "LStepStore$Search;", Cond.fieldLink RX3 25 "StepStore$Packing" "buses" "I", Cond.fieldLink RX3 46 "StepStore$Search" "chosen" "[I", Cond.fieldLink RX3 22 "StepStore$Packing" "actsOf" "[I", Cond.fieldLink RX3 19 "StepStore$Packing" "wordOf" "[I", Cond.fieldLink RX3 15 "StepStore$Packing" "lengths" "[I", Cond.methodLink RX3 42 yX6_solve, Cond.instanceMethod yX6_solve, Cond.selects RX6 yX6_solve yX6_solve, Cond.initialized RX6, Cond.code yX6_solve cX6_solve 4 (some .int), Cond.fieldLink RX6 34 "StepStore$Search" "rows" "LStepStore$Rows;", Cond.fieldLink RX6 38 "StepStore$Rows" "lengths" "[I", Cond.fieldLink RX6 43 "StepStore$Search" "length" "I", Cond.fieldLink RX6 30 "StepStore$Search" "tooFew" "[B", Cond.fieldLink RX6 55 "StepStore$Search" "words" "I", Cond.methodLink RX6 47 yX6_learnParts, Cond.instanceMethod yX6_learnParts, Cond.selects RX6 yX6_learnParts yX6_learnParts, Cond.code yX6_learnParts cX6_learnParts 4 none, Cond.fieldLink RX6 24 "StepStore$Search" "ofPart" "[I", Cond.fieldLink RX6 27 "StepStore$Search" "rooms" "[I"]
def wsX7_step_r3 : List Cond := [Cond.methodLink RX6 62 yJ7_fill_53178, Cond.static yJ7_fill_53178, Cond.initialized RJ7, Cond.code yJ7_fill_53178 cJ7_fill_53178 4 none, Cond.static yX7_slot, Cond.code yX7_slot cX7_slot 2 (some .int), Cond.methodLink RX6 71 yX5_partOf, Cond.instanceMethod yX5_partOf, Cond.selects RX5 yX5_partOf yX5_partOf, Cond.initialized RX5, Cond.code yX5_partOf cX5_partOf 2 (some .int), Cond.fieldLink RX5 15 "StepStore$Rows" "kinds" "[I", Cond.methodLink RX6 51 yX6_learnNeeds, Cond.instanceMethod yX6_learnNeeds, Cond.selects RX6 yX6_learnNeeds yX6_learnNeeds, Cond.code yX6_learnNeeds cX6_learnNeeds 5 none, Cond.fieldLink RX6 15 "StepStore$Search" "earlier" "[I", Cond.fieldLink RX6 18 "StepStore$Search" "notAfter" "[I", Cond.fieldLink RX6 21 "StepStore$Search" "wordsBehind" "[I", Cond.methodLink RX6 78 Lib.Math.max.name, Cond.static Lib.Math.max.name, Cond.initialized "java/lang/Math", Cond.code Lib.Math.max.name Lib.Math.max.code 2 (some .int), Cond.methodLink RX6 75 yX5_need]
def wsX7_step_r4 : List Cond := [Cond.instanceMethod yX5_need, Cond.selects RX5 yX5_need yX5_need, Cond.code yX5_need cX5_need 3 (some .int), Cond.fieldLink RX5 30 "StepStore$Rows" "writes" "[I", Cond.fieldLink RX5 27 "StepStore$Rows" "reads" "[I", Cond.methodLink RX5 56 yX5_canTrap, Cond.instanceMethod yX5_canTrap, Cond.selects RX5 yX5_canTrap yX5_canTrap, Cond.code yX5_canTrap cX5_canTrap 3 (some .boolean), Cond.methodLink RX6 58 yX6_fill, Cond.static yX6_fill, Cond.code yX6_fill cX6_fill 11 (some .boolean), Cond.fieldLink RX6 9 "StepStore$Search" "chosen" "[I", Cond.methodLink RX6 83 yX6_areTooMany, Cond.instanceMethod yX6_areTooMany, Cond.selects RX6 yX6_areTooMany yX6_areTooMany, Cond.code yX6_areTooMany cX6_areTooMany 4 (some .boolean), Cond.methodLink RX6 97 yJ6_bitCount_0f7a4, Cond.static yJ6_bitCount_0f7a4, Cond.initialized RJ6, Cond.code yJ6_bitCount_0f7a4 cJ6_bitCount_0f7a4 1 (some .int), Cond.constant RJ6 265 (1431655765), Cond.constant RJ6 266 (858993459), Cond.constant RJ6 267 (252645135)]
def wsX7_step_r5 : List Cond := [Cond.static yX7_isIn, Cond.code yX7_isIn cX7_isIn 2 (some .boolean), Cond.methodLink RX6 87 yX6_readyAfter, Cond.instanceMethod yX6_readyAfter, Cond.selects RX6 yX6_readyAfter yX6_readyAfter, Cond.code yX6_readyAfter cX6_readyAfter 5 (some .int), Cond.methodLink RX6 90 yX6_urgentOf, Cond.instanceMethod yX6_urgentOf, Cond.selects RX6 yX6_urgentOf yX6_urgentOf, Cond.code yX6_urgentOf cX6_urgentOf 5 (some .int), Cond.methodLink RX6 93 yX6_canMeet, Cond.instanceMethod yX6_canMeet, Cond.selects RX6 yX6_canMeet yX6_canMeet, Cond.code yX6_canMeet cX6_canMeet 5 (some .boolean), Cond.methodLink RX7 101 yX2_put, Cond.instanceMethod yX2_put, Cond.selects RX2 yX2_put yX2_put, Cond.initialized RX2, Cond.code yX2_put cX2_put 6 (some .int), Cond.fieldLink RX2 15 "StepStore$Inside" "numbers" "[J", Cond.methodLink RX2 31 yX2_cutFor, Cond.instanceMethod yX2_cutFor, Cond.selects RX2 yX2_cutFor yX2_cutFor, Cond.code yX2_cutFor cX2_cutFor 5 (some .long)]
def wsX7_step_r6 : List Cond := [Cond.fieldLink RX2 9 "StepStore$Inside" "widths" "[I", Cond.methodLink RX7 216 yX0_perform, Cond.instanceMethod yX0_perform, Cond.selects RX0 yX0_perform yX0_perform, Cond.initialized RX0, Cond.code yX0_perform cX0_perform 7 (some .int), Cond.fieldLink RX0 26 "StepStore$Doer" "inside" "LStepStore$Inside;", Cond.fieldLink RX0 9 "StepStore$Doer" "trapped" "I", Cond.fieldLink RX0 43 "StepStore$Doer" "actsDone" "I", Cond.fieldLink RX0 46 "StepStore$Doer" "wordsDone" "I", Cond.fieldLink RX0 34 "StepStore$Doer" "packing" "LStepStore$Packing;", Cond.fieldLink RX0 49 "StepStore$Packing" "lengths" "[I", Cond.fieldLink RX0 30 "StepStore$Doer" "rows" "LStepStore$Rows;", Cond.fieldLink RX0 54 "StepStore$Rows" "lengths" "[I", Cond.fieldLink RX0 57 "StepStore$Packing" "actsOf" "[I", Cond.methodLink RX0 38 yX2_forgetOlds, Cond.instanceMethod yX2_forgetOlds, Cond.selects RX2 yX2_forgetOlds yX2_forgetOlds, Cond.code yX2_forgetOlds cX2_forgetOlds 1 none, Cond.fieldLink RX2 35 "StepStore$Inside" "olds" "I", Cond.methodLink RX0 64 yX0_doTogether, Cond.instanceMethod yX0_doTogether, Cond.selects RX0 yX0_doTogether yX0_doTogether, Cond.code yX0_doTogether cX0_doTogether 6 (some .int)]
def wsX7_step_r7 : List Cond := [Cond.fieldLink RX0 93 "StepStore$Doer" "waiting" "I", Cond.fieldLink RX0 15 "StepStore$Doer" "waitingPlaces" "[I", Cond.fieldLink RX0 19 "StepStore$Doer" "waitingNumbers" "[J", Cond.methodLink RX0 100 yX0_take, Cond.instanceMethod yX0_take, Cond.selects RX0 yX0_take yX0_take, Cond.code yX0_take cX0_take 5 (some .int), Cond.fieldLink RX0 107 "StepStore$Rows" "ds" "[I", Cond.fieldLink RX0 110 "StepStore$Rows" "xs" "[I", Cond.fieldLink RX0 113 "StepStore$Rows" "ys" "[I", Cond.fieldLink RX0 116 "StepStore$Rows" "kinds" "[I", Cond.fieldLink RX0 77 "StepStore$Inside" "numbers" "[J", Cond.methodLink RX0 119 yX0_putLater, Cond.instanceMethod yX0_putLater, Cond.selects RX0 yX0_putLater yX0_putLater, Cond.code yX0_putLater cX0_putLater 4 none, Cond.methodLink RX0 122 yX0_fetch, Cond.instanceMethod yX0_fetch, Cond.selects RX0 yX0_fetch yX0_fetch, Cond.code yX0_fetch cX0_fetch 4 (some .int), Cond.static yX7_isCell, Cond.code yX7_isCell cX7_isCell 2 (some .boolean), Cond.methodLink RX0 126 yX0_keep, Cond.instanceMethod yX0_keep]
def wsX7_step_r8 : List Cond := [Cond.selects RX0 yX0_keep yX0_keep, Cond.code yX0_keep cX0_keep 5 (some .int), Cond.methodLink RX0 130 yX0_work, Cond.instanceMethod yX0_work, Cond.selects RX0 yX0_work yX0_work, Cond.code yX0_work cX0_work 10 none, Cond.methodLink RX0 138 yX2_cutFor, Cond.methodLink RX0 86 yX2_goBack, Cond.instanceMethod yX2_goBack, Cond.selects RX2 yX2_goBack yX2_goBack, Cond.code yX2_goBack cX2_goBack 2 none, Cond.fieldLink RX2 19 "StepStore$Inside" "oldPlaces" "[I", Cond.fieldLink RX2 22 "StepStore$Inside" "oldNumbers" "[J", Cond.methodLink RX0 103 yX2_putAndRemember, Cond.instanceMethod yX2_putAndRemember, Cond.selects RX2 yX2_putAndRemember yX2_putAndRemember, Cond.code yX2_putAndRemember cX2_putAndRemember 4 none, Cond.methodLink RX2 39 yX2_put, Cond.methodLink RX0 67 yJ6_bitCount_0f7a4, Cond.methodLink RX7 220 yX7_keepTold, Cond.instanceMethod yX7_keepTold, Cond.selects RX7 yX7_keepTold yX7_keepTold, Cond.code yX7_keepTold cX7_keepTold 1 none, Cond.fieldLink RX7 59 "StepStore" "told" "[I"]
def wsX7_step_r9 : List Cond := [Cond.fieldLink RX7 248 "StepStore$Doer" "actsDone" "I", Cond.fieldLink RX7 251 "StepStore$Doer" "wordsDone" "I", Cond.fieldLink RX7 254 "StepStore$Doer" "trapped" "I"]
def wsX7_step : List Cond := .code yX7_step cX7_step 4 (some .int) :: ((wsX7_step_r1 ++ (wsX7_step_r2 ++ (wsX7_step_r3 ++ (wsX7_step_r4 ++ (wsX7_step_r5 ++ (wsX7_step_r6 ++ (wsX7_step_r7 ++ (wsX7_step_r8 ++ wsX7_step_r9)))))))) ++ wsX70 ++ wsX20 ++ wsX30 ++ wsX60 ++ wsX50 ++ wsX00)
def wsX7_count : List Cond := .code yX7_count cX7_count 2 (some .int) :: ([.fieldLink RX7 233 "StepStore" "steps" "I", .fieldLink RX7 236 "StepStore" "traps" "I", .fieldLink RX7 226 "StepStore" "ended" "I", .methodLink RX7 91 yX7_refuse, .instanceMethod yX7_refuse, .selects RX7 yX7_refuse yX7_refuse, .initialized RX7, .code yX7_refuse cX7_refuse 2 (some .int), .fieldLink RX7 74 "StepStore" "refused" "[I"] ++ wsX70)
def wsX7_image : List Cond := .code yX7_image cX7_image 3 (some .int) :: ([.fieldLink RX7 66 "StepStore" "image" "[J", .fieldLink RX7 12 "StepStore" "inside" "LStepStore$Inside;", .fieldLink RX7 98 "StepStore$Inside" "numbers" "[J", .fieldLink RX7 239 "StepStore" "hasImage" "Z"] ++ wsX70 ++ wsX20)
def wsX7_restore : List Cond := .code yX7_restore cX7_restore 3 (some .int) :: ([.fieldLink RX7 239 "StepStore" "hasImage" "Z", .fieldLink RX7 12 "StepStore" "inside" "LStepStore$Inside;", .fieldLink RX7 66 "StepStore" "image" "[J", .methodLink RX7 91 yX7_refuse, .instanceMethod yX7_refuse, .selects RX7 yX7_refuse yX7_refuse, .initialized RX7, .code yX7_refuse cX7_refuse 2 (some .int), .fieldLink RX7 74 "StepStore" "refused" "[I", .methodLink RX7 101 yX2_put, .instanceMethod yX2_put, .selects RX2 yX2_put yX2_put, .initialized RX2, .code yX2_put cX2_put 6 (some .int), .fieldLink RX2 15 "StepStore$Inside" "numbers" "[J", .methodLink RX2 31 yX2_cutFor, .instanceMethod yX2_cutFor, .selects RX2 yX2_cutFor yX2_cutFor, .code yX2_cutFor cX2_cutFor 5 (some .long), .fieldLink RX2 9 "StepStore$Inside" "widths" "[I"] ++ wsX70 ++ wsX20)
def wsX7_lay : List Cond := .code yX7_lay cX7_lay 4 (some .int) :: ([.fieldLink RX7 70 "StepStore" "line" "[S", .fieldLink RX7 12 "StepStore" "inside" "LStepStore$Inside;", .fieldLink RX7 98 "StepStore$Inside" "numbers" "[J", .fieldLink RX7 83 "StepStore" "lineLength" "I", .methodLink RX7 91 yX7_refuse, .instanceMethod yX7_refuse, .selects RX7 yX7_refuse yX7_refuse, .initialized RX7, .code yX7_refuse cX7_refuse 2 (some .int), .fieldLink RX7 74 "StepStore" "refused" "[I"] ++ wsX70 ++ wsX20)
def wsX7_tear : List Cond := .code yX7_tear cX7_tear 2 (some .int) :: ([.fieldLink RX7 83 "StepStore" "lineLength" "I"] ++ wsX70)
def wsX7_row : List Cond := .code yX7_row cX7_row 2 (some .int) :: ([.fieldLink RX7 83 "StepStore" "lineLength" "I", .fieldLink RX7 70 "StepStore" "line" "[S", .methodLink RX7 91 yX7_refuse, .instanceMethod yX7_refuse, .selects RX7 yX7_refuse yX7_refuse, .initialized RX7, .code yX7_refuse cX7_refuse 2 (some .int), .fieldLink RX7 74 "StepStore" "refused" "[I"] ++ wsX70)
def wsX7_copy : List Cond := .code yX7_copy cX7_copy 4 (some .int) :: ([.fieldLink RX7 83 "StepStore" "lineLength" "I", .fieldLink RX7 70 "StepStore" "line" "[S", .methodLink RX7 242 arraycopyName, .native arraycopyName, .static arraycopyName, .initialized "java/lang/System", .methodLink RX7 91 yX7_refuse, .instanceMethod yX7_refuse, .selects RX7 yX7_refuse yX7_refuse, .initialized RX7, .code yX7_refuse cX7_refuse 2 (some .int), .fieldLink RX7 74 "StepStore" "refused" "[I"] ++ wsX70)
def wsX7_status : List Cond := .code yX7_status cX7_status 2 (some .int) :: ([.fieldLink RX7 74 "StepStore" "refused" "[I", .methodLink RX7 91 yX7_refuse, .instanceMethod yX7_refuse, .selects RX7 yX7_refuse yX7_refuse, .initialized RX7, .code yX7_refuse cX7_refuse 2 (some .int)] ++ wsX70)
def wsX8_init_r1 : List Cond := [Cond.methodLink RX8 1 objectInit, Cond.instanceMethod objectInit, Cond.code objectInit ⟨#[0xb1]⟩ 1 none, Cond.arrayClass .long, Cond.fieldLink RX8 7 "StepStoreModel" "now" "[J", Cond.fieldLink RX8 13 "StepStoreModel" "kept" "[J", Cond.fieldLink RX8 16 "StepStoreModel" "ahead" "[J", Cond.fieldLink RX8 19 "StepStoreModel" "before" "[J", Cond.fieldLink RX8 22 "StepStoreModel" "ended" "[J", Cond.arrayClass .int, Cond.fieldLink RX8 25 "StepStoreModel" "widths" "[I", Cond.fieldLink RX8 29 "StepStoreModel" "kind" "[I", Cond.fieldLink RX8 32 "StepStoreModel" "dOf" "[I", Cond.fieldLink RX8 35 "StepStoreModel" "xOf" "[I", Cond.fieldLink RX8 38 "StepStoreModel" "yOf" "[I", Cond.fieldLink RX8 41 "StepStoreModel" "acts" "[I", Cond.fieldLink RX8 44 "StepStoreModel" "buses" "I", Cond.fieldLink RX8 48 "StepStoreModel" "refused" "[I", Cond.fieldLink RX8 51 "StepStoreModel" "fewest" "[I", Cond.fieldLink RX8 54 "StepStoreModel" "word" "[I", Cond.fieldLink RX8 57 "StepStoreModel" "wordCount" "[I", Cond.fieldLink RX8 60 "StepStoreModel" "later" "[I", Cond.fieldLink RX8 63 "StepStoreModel" "notBefore" "[I", Cond.arrayClass .boolean]
def wsX8_init_r2 : List Cond := [Cond.fieldLink RX8 66 "StepStoreModel" "isPacked" "[Z", Cond.fieldLink RX8 70 "StepStoreModel" "placeRow" "[I", Cond.fieldLink RX8 73 "StepStoreModel" "placeWord" "[I", Cond.fieldLink RX8 76 "StepStoreModel" "goesOn" "[I", Cond.fieldLink RX8 79 "StepStoreModel" "sharers" "[I", Cond.fieldLink RX8 82 "StepStoreModel" "placeOf" "[I", Cond.fieldLink RX8 85 "StepStoreModel" "fieldAct" "[I", Cond.fieldLink RX8 88 "StepStoreModel" "different" "[I", Cond.fieldLink RX8 91 "StepStoreModel" "meets" "[I", Cond.fieldLink RX8 94 "StepStoreModel" "groupOf" "[I", Cond.fieldLink RX8 97 "StepStoreModel" "groupActs" "[I", Cond.fieldLink RX8 100 "StepStoreModel" "trapped" "I", Cond.fieldLink RX8 103 "StepStoreModel" "first" "[J", Cond.fieldLink RX8 106 "StepStoreModel" "codes" "[I", Cond.fieldLink RX8 109 "StepStoreModel" "row" "[I", Cond.fieldLink RX8 112 "StepStoreModel" "moved" "[I", Cond.fieldLink RX8 115 "StepStoreModel" "rowSize" "I"]
def wsX8_init : List Cond := .code yX8_init cX8_init 2 none :: ((wsX8_init_r1 ++ wsX8_init_r2) ++ wsX80)
def wsX8_isIn : List Cond := .code yX8_isIn cX8_isIn 6 (some .boolean) :: ([])
def wsX8_no : List Cond := .code yX8_no cX8_no 2 (some .int) :: ([.fieldLink RX8 48 "StepStoreModel" "refused" "[I"] ++ wsX80)
def wsX8_isRegister : List Cond := .code yX8_isRegister cX8_isRegister 1 (some .boolean) :: ([])
def wsX8_isCell : List Cond := .code yX8_isCell cX8_isCell 1 (some .boolean) :: ([])
def wsX8_isInstruction : List Cond := .code yX8_isInstruction cX8_isInstruction 1 (some .boolean) :: ([])
def wsX8_cut : List Cond := .code yX8_cut cX8_cut 4 (some .long) :: ([.fieldLink RX8 25 "StepStoreModel" "widths" "[I"] ++ wsX80)
def wsX8_width : List Cond := .code yX8_width cX8_width 4 (some .int) :: ([.constantLong RX8 126 (32), .fieldLink RX8 25 "StepStoreModel" "widths" "[I", .fieldLink RX8 7 "StepStoreModel" "now" "[J", .methodLink RX8 118 yX8_isRegister, .static yX8_isRegister, .initialized RX8, .code yX8_isRegister cX8_isRegister 1 (some .boolean), .methodLink RX8 122 yX8_no, .instanceMethod yX8_no, .selects RX8 yX8_no yX8_no, .code yX8_no cX8_no 2 (some .int), .fieldLink RX8 48 "StepStoreModel" "refused" "[I", .methodLink RX8 128 yX8_isIn, .static yX8_isIn, .code yX8_isIn cX8_isIn 6 (some .boolean), .methodLink RX8 132 yX8_cut, .instanceMethod yX8_cut, .selects RX8 yX8_cut yX8_cut, .code yX8_cut cX8_cut 4 (some .long)] ++ wsX80)
def wsX8_set : List Cond := .code yX8_set cX8_set 6 (some .int) :: ([.fieldLink RX8 7 "StepStoreModel" "now" "[J", .methodLink RX8 118 yX8_isRegister, .static yX8_isRegister, .initialized RX8, .code yX8_isRegister cX8_isRegister 1 (some .boolean), .methodLink RX8 122 yX8_no, .instanceMethod yX8_no, .selects RX8 yX8_no yX8_no, .code yX8_no cX8_no 2 (some .int), .fieldLink RX8 48 "StepStoreModel" "refused" "[I", .methodLink RX8 132 yX8_cut, .instanceMethod yX8_cut, .selects RX8 yX8_cut yX8_cut, .code yX8_cut cX8_cut 4 (some .long), .fieldLink RX8 25 "StepStoreModel" "widths" "[I"] ++ wsX80)
def wsX8_register : List Cond := .code yX8_register cX8_register 3 (some .long) :: ([.fieldLink RX8 7 "StepStoreModel" "now" "[J", .methodLink RX8 118 yX8_isRegister, .static yX8_isRegister, .initialized RX8, .code yX8_isRegister cX8_isRegister 1 (some .boolean), .methodLink RX8 122 yX8_no, .instanceMethod yX8_no, .selects RX8 yX8_no yX8_no, .code yX8_no cX8_no 2 (some .int), .fieldLink RX8 48 "StepStoreModel" "refused" "[I"] ++ wsX80)
def wsX8_poke : List Cond := .code yX8_poke cX8_poke 6 (some .int) :: ([.fieldLink RX8 7 "StepStoreModel" "now" "[J", .constantLong RX8 139 (4294967295), .methodLink RX8 136 yX8_isCell, .static yX8_isCell, .initialized RX8, .code yX8_isCell cX8_isCell 1 (some .boolean), .methodLink RX8 122 yX8_no, .instanceMethod yX8_no, .selects RX8 yX8_no yX8_no, .code yX8_no cX8_no 2 (some .int), .fieldLink RX8 48 "StepStoreModel" "refused" "[I"] ++ wsX80)
def wsX8_cell : List Cond := .code yX8_cell cX8_cell 3 (some .long) :: ([.fieldLink RX8 7 "StepStoreModel" "now" "[J", .methodLink RX8 136 yX8_isCell, .static yX8_isCell, .initialized RX8, .code yX8_isCell cX8_isCell 1 (some .boolean), .methodLink RX8 122 yX8_no, .instanceMethod yX8_no, .selects RX8 yX8_no yX8_no, .code yX8_no cX8_no 2 (some .int), .fieldLink RX8 48 "StepStoreModel" "refused" "[I"] ++ wsX80)
def wsX8_flag : List Cond := .code yX8_flag cX8_flag 4 (some .int) :: ([.fieldLink RX8 7 "StepStoreModel" "now" "[J", .methodLink RX8 128 yX8_isIn, .static yX8_isIn, .initialized RX8, .code yX8_isIn cX8_isIn 6 (some .boolean), .methodLink RX8 122 yX8_no, .instanceMethod yX8_no, .selects RX8 yX8_no yX8_no, .code yX8_no cX8_no 2 (some .int), .fieldLink RX8 48 "StepStoreModel" "refused" "[I"] ++ wsX80)
def wsX8_flags : List Cond := .code yX8_flags cX8_flags 1 (some .int) :: ([.fieldLink RX8 7 "StepStoreModel" "now" "[J", .constantLong RX8 141 (2)] ++ wsX80)
def wsX8_hasD : List Cond := .code yX8_hasD cX8_hasD 1 (some .boolean) :: ([])
def wsX8_hasY : List Cond := .code yX8_hasY cX8_hasY 1 (some .boolean) :: ([])
def wsX8_isActs : List Cond := .code yX8_isActs cX8_isActs 5 (some .boolean) :: ([.constantLong RX8 143 (10), .constantLong RX8 148 (255), .constantLong RX8 153 (-31), .constantLong RX8 155 (31), .methodLink RX8 128 yX8_isIn, .static yX8_isIn, .initialized RX8, .code yX8_isIn cX8_isIn 6 (some .boolean), .methodLink RX8 145 yX8_hasD, .static yX8_hasD, .code yX8_hasD cX8_hasD 1 (some .boolean), .methodLink RX8 118 yX8_isRegister, .static yX8_isRegister, .code yX8_isRegister cX8_isRegister 1 (some .boolean), .methodLink RX8 150 yX8_hasY, .static yX8_hasY, .code yX8_hasY cX8_hasY 1 (some .boolean)])
def wsX8_act_r1 : List Cond := [Cond.fieldLink RX8 41 "StepStoreModel" "acts" "[I", Cond.fieldLink RX8 29 "StepStoreModel" "kind" "[I", Cond.fieldLink RX8 32 "StepStoreModel" "dOf" "[I", Cond.fieldLink RX8 35 "StepStoreModel" "xOf" "[I", Cond.fieldLink RX8 38 "StepStoreModel" "yOf" "[I", Cond.fieldLink RX8 66 "StepStoreModel" "isPacked" "[Z", Cond.fieldLink RX8 164 "StepStoreModel" "isStored" "Z", Cond.methodLink RX8 157 yX8_isInstruction, Cond.static yX8_isInstruction, Cond.initialized RX8, Cond.code yX8_isInstruction cX8_isInstruction 1 (some .boolean), Cond.methodLink RX8 122 yX8_no, Cond.instanceMethod yX8_no, Cond.selects RX8 yX8_no yX8_no, Cond.code yX8_no cX8_no 2 (some .int), Cond.fieldLink RX8 48 "StepStoreModel" "refused" "[I", Cond.methodLink RX8 160 yX8_isActs, Cond.static yX8_isActs, Cond.code yX8_isActs cX8_isActs 5 (some .boolean), Cond.constantLong RX8 143 (10), Cond.constantLong RX8 148 (255), Cond.constantLong RX8 153 (-31), Cond.constantLong RX8 155 (31), Cond.methodLink RX8 128 yX8_isIn]
def wsX8_act_r2 : List Cond := [Cond.static yX8_isIn, Cond.code yX8_isIn cX8_isIn 6 (some .boolean), Cond.methodLink RX8 145 yX8_hasD, Cond.static yX8_hasD, Cond.code yX8_hasD cX8_hasD 1 (some .boolean), Cond.methodLink RX8 118 yX8_isRegister, Cond.static yX8_isRegister, Cond.code yX8_isRegister cX8_isRegister 1 (some .boolean), Cond.methodLink RX8 150 yX8_hasY, Cond.static yX8_hasY, Cond.code yX8_hasY cX8_hasY 1 (some .boolean)]
def wsX8_act : List Cond := .code yX8_act cX8_act 7 (some .int) :: ((wsX8_act_r1 ++ wsX8_act_r2) ++ wsX80)
def wsX8_clear : List Cond := .code yX8_clear cX8_clear 3 (some .int) :: ([.fieldLink RX8 41 "StepStoreModel" "acts" "[I", .fieldLink RX8 66 "StepStoreModel" "isPacked" "[Z", .fieldLink RX8 164 "StepStoreModel" "isStored" "Z", .methodLink RX8 157 yX8_isInstruction, .static yX8_isInstruction, .initialized RX8, .code yX8_isInstruction cX8_isInstruction 1 (some .boolean), .methodLink RX8 122 yX8_no, .instanceMethod yX8_no, .selects RX8 yX8_no yX8_no, .code yX8_no cX8_no 2 (some .int), .fieldLink RX8 48 "StepStoreModel" "refused" "[I"] ++ wsX80)
def wsX8_isAct : List Cond := .code yX8_isAct cX8_isAct 3 (some .boolean) :: ([.fieldLink RX8 41 "StepStoreModel" "acts" "[I", .methodLink RX8 157 yX8_isInstruction, .static yX8_isInstruction, .initialized RX8, .code yX8_isInstruction cX8_isInstruction 1 (some .boolean)] ++ wsX80)
def wsX8_partOf : List Cond := .code yX8_partOf cX8_partOf 1 (some .int) :: ([])
def wsX8_canTrap : List Cond := .code yX8_canTrap cX8_canTrap 1 (some .boolean) :: ([])
def wsX8_look : List Cond := .code yX8_look cX8_look 5 (some .int) :: ([.fieldLink RX8 29 "StepStoreModel" "kind" "[I", .fieldLink RX8 32 "StepStoreModel" "dOf" "[I", .fieldLink RX8 35 "StepStoreModel" "xOf" "[I", .fieldLink RX8 38 "StepStoreModel" "yOf" "[I", .methodLink RX8 168 yX8_isAct, .instanceMethod yX8_isAct, .selects RX8 yX8_isAct yX8_isAct, .initialized RX8, .code yX8_isAct cX8_isAct 3 (some .boolean), .fieldLink RX8 41 "StepStoreModel" "acts" "[I", .methodLink RX8 157 yX8_isInstruction, .static yX8_isInstruction, .code yX8_isInstruction cX8_isInstruction 1 (some .boolean), .methodLink RX8 122 yX8_no, .instanceMethod yX8_no, .selects RX8 yX8_no yX8_no, .code yX8_no cX8_no 2 (some .int), .fieldLink RX8 48 "StepStoreModel" "refused" "[I", .methodLink RX8 172 yX8_partOf, .static yX8_partOf, .code yX8_partOf cX8_partOf 1 (some .int), .methodLink RX8 175 yX8_canTrap, .static yX8_canTrap, .code yX8_canTrap cX8_canTrap 1 (some .boolean)] ++ wsX80)
def wsX8_buses : List Cond := .code yX8_buses cX8_buses 4 (some .int) :: ([.constantLong RX8 178 (3), .fieldLink RX8 44 "StepStoreModel" "buses" "I", .fieldLink RX8 66 "StepStoreModel" "isPacked" "[Z", .fieldLink RX8 164 "StepStoreModel" "isStored" "Z", .methodLink RX8 128 yX8_isIn, .static yX8_isIn, .initialized RX8, .code yX8_isIn cX8_isIn 6 (some .boolean), .methodLink RX8 122 yX8_no, .instanceMethod yX8_no, .selects RX8 yX8_no yX8_no, .code yX8_no cX8_no 2 (some .int), .fieldLink RX8 48 "StepStoreModel" "refused" "[I"] ++ wsX80)
def wsX8_reads : List Cond := .code yX8_reads cX8_reads 3 (some .int) :: ([.fieldLink RX8 29 "StepStoreModel" "kind" "[I", .fieldLink RX8 35 "StepStoreModel" "xOf" "[I", .fieldLink RX8 38 "StepStoreModel" "yOf" "[I"] ++ wsX80)
def wsX8_writes : List Cond := .code yX8_writes cX8_writes 3 (some .int) :: ([.fieldLink RX8 29 "StepStoreModel" "kind" "[I", .fieldLink RX8 32 "StepStoreModel" "dOf" "[I", .methodLink RX8 145 yX8_hasD, .static yX8_hasD, .initialized RX8, .code yX8_hasD cX8_hasD 1 (some .boolean)] ++ wsX80)
def wsX8_needed : List Cond := .code yX8_needed cX8_needed 3 (some .int) :: ([.fieldLink RX8 29 "StepStoreModel" "kind" "[I", .methodLink RX8 180 yX8_writes, .instanceMethod yX8_writes, .selects RX8 yX8_writes yX8_writes, .initialized RX8, .code yX8_writes cX8_writes 3 (some .int), .fieldLink RX8 32 "StepStoreModel" "dOf" "[I", .methodLink RX8 145 yX8_hasD, .static yX8_hasD, .code yX8_hasD cX8_hasD 1 (some .boolean), .methodLink RX8 183 yX8_reads, .instanceMethod yX8_reads, .selects RX8 yX8_reads yX8_reads, .code yX8_reads cX8_reads 3 (some .int), .fieldLink RX8 35 "StepStoreModel" "xOf" "[I", .fieldLink RX8 38 "StepStoreModel" "yOf" "[I", .methodLink RX8 175 yX8_canTrap, .static yX8_canTrap, .code yX8_canTrap cX8_canTrap 1 (some .boolean)] ++ wsX80)
def wsX8_needs_r1 : List Cond := [Cond.methodLink RX8 168 yX8_isAct, Cond.instanceMethod yX8_isAct, Cond.selects RX8 yX8_isAct yX8_isAct, Cond.initialized RX8, Cond.code yX8_isAct cX8_isAct 3 (some .boolean), Cond.fieldLink RX8 41 "StepStoreModel" "acts" "[I", Cond.methodLink RX8 157 yX8_isInstruction, Cond.static yX8_isInstruction, Cond.code yX8_isInstruction cX8_isInstruction 1 (some .boolean), Cond.methodLink RX8 122 yX8_no, Cond.instanceMethod yX8_no, Cond.selects RX8 yX8_no yX8_no, Cond.code yX8_no cX8_no 2 (some .int), Cond.fieldLink RX8 48 "StepStoreModel" "refused" "[I", Cond.methodLink RX8 186 yX8_needed, Cond.instanceMethod yX8_needed, Cond.selects RX8 yX8_needed yX8_needed, Cond.code yX8_needed cX8_needed 3 (some .int), Cond.fieldLink RX8 29 "StepStoreModel" "kind" "[I", Cond.methodLink RX8 180 yX8_writes, Cond.instanceMethod yX8_writes, Cond.selects RX8 yX8_writes yX8_writes, Cond.code yX8_writes cX8_writes 3 (some .int), Cond.fieldLink RX8 32 "StepStoreModel" "dOf" "[I"]
def wsX8_needs_r2 : List Cond := [Cond.methodLink RX8 145 yX8_hasD, Cond.static yX8_hasD, Cond.code yX8_hasD cX8_hasD 1 (some .boolean), Cond.methodLink RX8 183 yX8_reads, Cond.instanceMethod yX8_reads, Cond.selects RX8 yX8_reads yX8_reads, Cond.code yX8_reads cX8_reads 3 (some .int), Cond.fieldLink RX8 35 "StepStoreModel" "xOf" "[I", Cond.fieldLink RX8 38 "StepStoreModel" "yOf" "[I", Cond.methodLink RX8 175 yX8_canTrap, Cond.static yX8_canTrap, Cond.code yX8_canTrap cX8_canTrap 1 (some .boolean)]
def wsX8_needs : List Cond := .code yX8_needs cX8_needs 4 (some .int) :: ((wsX8_needs_r1 ++ wsX8_needs_r2) ++ wsX80)
def wsX8_isWord : List Cond := .code yX8_isWord cX8_isWord 8 (some .boolean) :: ([.fieldLink RX8 41 "StepStoreModel" "acts" "[I", .fieldLink RX8 29 "StepStoreModel" "kind" "[I", .fieldLink RX8 60 "StepStoreModel" "later" "[I", .fieldLink RX8 63 "StepStoreModel" "notBefore" "[I", .fieldLink RX8 44 "StepStoreModel" "buses" "I", .methodLink RX8 172 yX8_partOf, .static yX8_partOf, .initialized RX8, .code yX8_partOf cX8_partOf 1 (some .int)] ++ wsX80)
def wsX8_packs_r1 : List Cond := [Cond.fieldLink RX8 66 "StepStoreModel" "isPacked" "[Z", Cond.fieldLink RX8 41 "StepStoreModel" "acts" "[I", Cond.fieldLink RX8 60 "StepStoreModel" "later" "[I", Cond.fieldLink RX8 63 "StepStoreModel" "notBefore" "[I", Cond.fieldLink RX8 51 "StepStoreModel" "fewest" "[I", Cond.fieldLink RX8 54 "StepStoreModel" "word" "[I", Cond.fieldLink RX8 57 "StepStoreModel" "wordCount" "[I", Cond.methodLink RX8 186 yX8_needed, Cond.instanceMethod yX8_needed, Cond.selects RX8 yX8_needed yX8_needed, Cond.initialized RX8, Cond.code yX8_needed cX8_needed 3 (some .int), Cond.fieldLink RX8 29 "StepStoreModel" "kind" "[I", Cond.methodLink RX8 180 yX8_writes, Cond.instanceMethod yX8_writes, Cond.selects RX8 yX8_writes yX8_writes, Cond.code yX8_writes cX8_writes 3 (some .int), Cond.fieldLink RX8 32 "StepStoreModel" "dOf" "[I", Cond.methodLink RX8 145 yX8_hasD, Cond.static yX8_hasD, Cond.code yX8_hasD cX8_hasD 1 (some .boolean), Cond.methodLink RX8 183 yX8_reads, Cond.instanceMethod yX8_reads, Cond.selects RX8 yX8_reads yX8_reads]
def wsX8_packs_r2 : List Cond := [Cond.code yX8_reads cX8_reads 3 (some .int), Cond.fieldLink RX8 35 "StepStoreModel" "xOf" "[I", Cond.fieldLink RX8 38 "StepStoreModel" "yOf" "[I", Cond.methodLink RX8 175 yX8_canTrap, Cond.static yX8_canTrap, Cond.code yX8_canTrap cX8_canTrap 1 (some .boolean), Cond.methodLink RX8 190 yX8_isWord, Cond.instanceMethod yX8_isWord, Cond.selects RX8 yX8_isWord yX8_isWord, Cond.code yX8_isWord cX8_isWord 8 (some .boolean), Cond.fieldLink RX8 44 "StepStoreModel" "buses" "I", Cond.methodLink RX8 172 yX8_partOf, Cond.static yX8_partOf, Cond.code yX8_partOf cX8_partOf 1 (some .int)]
def wsX8_packs : List Cond := .code yX8_packs cX8_packs 8 none :: ((wsX8_packs_r1 ++ wsX8_packs_r2) ++ wsX80)
def wsX8_pack_r1 : List Cond := [Cond.fieldLink RX8 57 "StepStoreModel" "wordCount" "[I", Cond.methodLink RX8 157 yX8_isInstruction, Cond.static yX8_isInstruction, Cond.initialized RX8, Cond.code yX8_isInstruction cX8_isInstruction 1 (some .boolean), Cond.methodLink RX8 122 yX8_no, Cond.instanceMethod yX8_no, Cond.selects RX8 yX8_no yX8_no, Cond.code yX8_no cX8_no 2 (some .int), Cond.fieldLink RX8 48 "StepStoreModel" "refused" "[I", Cond.methodLink RX8 194 yX8_packs, Cond.instanceMethod yX8_packs, Cond.selects RX8 yX8_packs yX8_packs, Cond.code yX8_packs cX8_packs 8 none, Cond.fieldLink RX8 66 "StepStoreModel" "isPacked" "[Z", Cond.fieldLink RX8 41 "StepStoreModel" "acts" "[I", Cond.fieldLink RX8 60 "StepStoreModel" "later" "[I", Cond.fieldLink RX8 63 "StepStoreModel" "notBefore" "[I", Cond.fieldLink RX8 51 "StepStoreModel" "fewest" "[I", Cond.fieldLink RX8 54 "StepStoreModel" "word" "[I", Cond.methodLink RX8 186 yX8_needed, Cond.instanceMethod yX8_needed, Cond.selects RX8 yX8_needed yX8_needed, Cond.code yX8_needed cX8_needed 3 (some .int)]
def wsX8_pack_r2 : List Cond := [Cond.fieldLink RX8 29 "StepStoreModel" "kind" "[I", Cond.methodLink RX8 180 yX8_writes, Cond.instanceMethod yX8_writes, Cond.selects RX8 yX8_writes yX8_writes, Cond.code yX8_writes cX8_writes 3 (some .int), Cond.fieldLink RX8 32 "StepStoreModel" "dOf" "[I", Cond.methodLink RX8 145 yX8_hasD, Cond.static yX8_hasD, Cond.code yX8_hasD cX8_hasD 1 (some .boolean), Cond.methodLink RX8 183 yX8_reads, Cond.instanceMethod yX8_reads, Cond.selects RX8 yX8_reads yX8_reads, Cond.code yX8_reads cX8_reads 3 (some .int), Cond.fieldLink RX8 35 "StepStoreModel" "xOf" "[I", Cond.fieldLink RX8 38 "StepStoreModel" "yOf" "[I", Cond.methodLink RX8 175 yX8_canTrap, Cond.static yX8_canTrap, Cond.code yX8_canTrap cX8_canTrap 1 (some .boolean), Cond.methodLink RX8 190 yX8_isWord, Cond.instanceMethod yX8_isWord, Cond.selects RX8 yX8_isWord yX8_isWord, Cond.code yX8_isWord cX8_isWord 8 (some .boolean), Cond.fieldLink RX8 44 "StepStoreModel" "buses" "I", Cond.methodLink RX8 172 yX8_partOf]
def wsX8_pack_r3 : List Cond := [Cond.static yX8_partOf, Cond.code yX8_partOf cX8_partOf 1 (some .int)]
def wsX8_pack : List Cond := .code yX8_pack cX8_pack 2 (some .int) :: ((wsX8_pack_r1 ++ (wsX8_pack_r2 ++ wsX8_pack_r3)) ++ wsX80)
def wsX8_word : List Cond := .code yX8_word cX8_word 3 (some .int) :: ([.fieldLink RX8 66 "StepStoreModel" "isPacked" "[Z", .fieldLink RX8 54 "StepStoreModel" "word" "[I", .methodLink RX8 168 yX8_isAct, .instanceMethod yX8_isAct, .selects RX8 yX8_isAct yX8_isAct, .initialized RX8, .code yX8_isAct cX8_isAct 3 (some .boolean), .fieldLink RX8 41 "StepStoreModel" "acts" "[I", .methodLink RX8 157 yX8_isInstruction, .static yX8_isInstruction, .code yX8_isInstruction cX8_isInstruction 1 (some .boolean), .methodLink RX8 122 yX8_no, .instanceMethod yX8_no, .selects RX8 yX8_no yX8_no, .code yX8_no cX8_no 2 (some .int), .fieldLink RX8 48 "StepStoreModel" "refused" "[I"] ++ wsX80)
def wsX8_why_r1 : List Cond := [Cond.fieldLink RX8 66 "StepStoreModel" "isPacked" "[Z", Cond.fieldLink RX8 54 "StepStoreModel" "word" "[I", Cond.methodLink RX8 168 yX8_isAct, Cond.instanceMethod yX8_isAct, Cond.selects RX8 yX8_isAct yX8_isAct, Cond.initialized RX8, Cond.code yX8_isAct cX8_isAct 3 (some .boolean), Cond.fieldLink RX8 41 "StepStoreModel" "acts" "[I", Cond.methodLink RX8 157 yX8_isInstruction, Cond.static yX8_isInstruction, Cond.code yX8_isInstruction cX8_isInstruction 1 (some .boolean), Cond.methodLink RX8 122 yX8_no, Cond.instanceMethod yX8_no, Cond.selects RX8 yX8_no yX8_no, Cond.code yX8_no cX8_no 2 (some .int), Cond.fieldLink RX8 48 "StepStoreModel" "refused" "[I", Cond.methodLink RX8 186 yX8_needed, Cond.instanceMethod yX8_needed, Cond.selects RX8 yX8_needed yX8_needed, Cond.code yX8_needed cX8_needed 3 (some .int), Cond.fieldLink RX8 29 "StepStoreModel" "kind" "[I", Cond.methodLink RX8 180 yX8_writes, Cond.instanceMethod yX8_writes, Cond.selects RX8 yX8_writes yX8_writes]
def wsX8_why_r2 : List Cond := [Cond.code yX8_writes cX8_writes 3 (some .int), Cond.fieldLink RX8 32 "StepStoreModel" "dOf" "[I", Cond.methodLink RX8 145 yX8_hasD, Cond.static yX8_hasD, Cond.code yX8_hasD cX8_hasD 1 (some .boolean), Cond.methodLink RX8 183 yX8_reads, Cond.instanceMethod yX8_reads, Cond.selects RX8 yX8_reads yX8_reads, Cond.code yX8_reads cX8_reads 3 (some .int), Cond.fieldLink RX8 35 "StepStoreModel" "xOf" "[I", Cond.fieldLink RX8 38 "StepStoreModel" "yOf" "[I", Cond.methodLink RX8 175 yX8_canTrap, Cond.static yX8_canTrap, Cond.code yX8_canTrap cX8_canTrap 1 (some .boolean)]
def wsX8_why : List Cond := .code yX8_why cX8_why 6 (some .int) :: ((wsX8_why_r1 ++ wsX8_why_r2) ++ wsX80)
def wsX8_actOf : List Cond := .code yX8_actOf cX8_actOf 6 (some .int) :: ([.fieldLink RX8 41 "StepStoreModel" "acts" "[I", .fieldLink RX8 54 "StepStoreModel" "word" "[I"] ++ wsX80)
def wsX8_areSame : List Cond := .code yX8_areSame cX8_areSame 3 (some .boolean) :: ([.fieldLink RX8 29 "StepStoreModel" "kind" "[I", .fieldLink RX8 32 "StepStoreModel" "dOf" "[I", .fieldLink RX8 35 "StepStoreModel" "xOf" "[I", .fieldLink RX8 38 "StepStoreModel" "yOf" "[I"] ++ wsX80)
def wsX8_isLike : List Cond := .code yX8_isLike cX8_isLike 7 (some .boolean) :: ([.fieldLink RX8 70 "StepStoreModel" "placeRow" "[I", .fieldLink RX8 73 "StepStoreModel" "placeWord" "[I", .methodLink RX8 198 yX8_actOf, .instanceMethod yX8_actOf, .selects RX8 yX8_actOf yX8_actOf, .initialized RX8, .code yX8_actOf cX8_actOf 6 (some .int), .fieldLink RX8 41 "StepStoreModel" "acts" "[I", .fieldLink RX8 54 "StepStoreModel" "word" "[I", .methodLink RX8 202 yX8_areSame, .instanceMethod yX8_areSame, .selects RX8 yX8_areSame yX8_areSame, .code yX8_areSame cX8_areSame 3 (some .boolean), .fieldLink RX8 29 "StepStoreModel" "kind" "[I", .fieldLink RX8 32 "StepStoreModel" "dOf" "[I", .fieldLink RX8 35 "StepStoreModel" "xOf" "[I", .fieldLink RX8 38 "StepStoreModel" "yOf" "[I"] ++ wsX80)
def wsX8_lays : List Cond := .code yX8_lays cX8_lays 5 (some .int) :: ([.fieldLink RX8 205 "StepStoreModel" "places" "I", .fieldLink RX8 76 "StepStoreModel" "goesOn" "[I", .fieldLink RX8 79 "StepStoreModel" "sharers" "[I", .fieldLink RX8 70 "StepStoreModel" "placeRow" "[I", .fieldLink RX8 73 "StepStoreModel" "placeWord" "[I", .methodLink RX8 208 yX8_isLike, .instanceMethod yX8_isLike, .selects RX8 yX8_isLike yX8_isLike, .initialized RX8, .code yX8_isLike cX8_isLike 7 (some .boolean), .methodLink RX8 198 yX8_actOf, .instanceMethod yX8_actOf, .selects RX8 yX8_actOf yX8_actOf, .code yX8_actOf cX8_actOf 6 (some .int), .fieldLink RX8 41 "StepStoreModel" "acts" "[I", .fieldLink RX8 54 "StepStoreModel" "word" "[I", .methodLink RX8 202 yX8_areSame, .instanceMethod yX8_areSame, .selects RX8 yX8_areSame yX8_areSame, .code yX8_areSame cX8_areSame 3 (some .boolean), .fieldLink RX8 29 "StepStoreModel" "kind" "[I", .fieldLink RX8 32 "StepStoreModel" "dOf" "[I", .fieldLink RX8 35 "StepStoreModel" "xOf" "[I", .fieldLink RX8 38 "StepStoreModel" "yOf" "[I"] ++ wsX80)
def wsX8_actsAt : List Cond := .code yX8_actsAt cX8_actsAt 3 (some .int) :: ([.fieldLink RX8 70 "StepStoreModel" "placeRow" "[I", .fieldLink RX8 73 "StepStoreModel" "placeWord" "[I", .methodLink RX8 198 yX8_actOf, .instanceMethod yX8_actOf, .selects RX8 yX8_actOf yX8_actOf, .initialized RX8, .code yX8_actOf cX8_actOf 6 (some .int), .fieldLink RX8 41 "StepStoreModel" "acts" "[I", .fieldLink RX8 54 "StepStoreModel" "word" "[I"] ++ wsX80)
def wsX8_isNew : List Cond := .code yX8_isNew cX8_isNew 7 (some .boolean) :: ([.fieldLink RX8 85 "StepStoreModel" "fieldAct" "[I", .methodLink RX8 202 yX8_areSame, .instanceMethod yX8_areSame, .selects RX8 yX8_areSame yX8_areSame, .initialized RX8, .code yX8_areSame cX8_areSame 3 (some .boolean), .fieldLink RX8 29 "StepStoreModel" "kind" "[I", .fieldLink RX8 32 "StepStoreModel" "dOf" "[I", .fieldLink RX8 35 "StepStoreModel" "xOf" "[I", .fieldLink RX8 38 "StepStoreModel" "yOf" "[I"] ++ wsX80)
def wsX8_isMet : List Cond := .code yX8_isMet cX8_isMet 5 (some .boolean) :: ([.fieldLink RX8 94 "StepStoreModel" "groupOf" "[I", .fieldLink RX8 91 "StepStoreModel" "meets" "[I"] ++ wsX80)
def wsX8_findGroups : List Cond := .code yX8_findGroups cX8_findGroups 3 none :: ([.fieldLink RX8 226 "StepStoreModel" "groups" "I", .fieldLink RX8 94 "StepStoreModel" "groupOf" "[I", .fieldLink RX8 88 "StepStoreModel" "different" "[I", .fieldLink RX8 97 "StepStoreModel" "groupActs" "[I", .methodLink RX8 229 yX8_isMet, .instanceMethod yX8_isMet, .selects RX8 yX8_isMet yX8_isMet, .initialized RX8, .code yX8_isMet cX8_isMet 5 (some .boolean), .fieldLink RX8 91 "StepStoreModel" "meets" "[I"] ++ wsX80)
def wsX8_findFields_r1 : List Cond := [Cond.fieldLink RX8 88 "StepStoreModel" "different" "[I", Cond.fieldLink RX8 91 "StepStoreModel" "meets" "[I", Cond.fieldLink RX8 205 "StepStoreModel" "places" "I", Cond.fieldLink RX8 85 "StepStoreModel" "fieldAct" "[I", Cond.fieldLink RX8 70 "StepStoreModel" "placeRow" "[I", Cond.fieldLink RX8 73 "StepStoreModel" "placeWord" "[I", Cond.fieldLink RX8 29 "StepStoreModel" "kind" "[I", Cond.methodLink RX8 217 yX8_actsAt, Cond.instanceMethod yX8_actsAt, Cond.selects RX8 yX8_actsAt yX8_actsAt, Cond.initialized RX8, Cond.code yX8_actsAt cX8_actsAt 3 (some .int), Cond.methodLink RX8 198 yX8_actOf, Cond.instanceMethod yX8_actOf, Cond.selects RX8 yX8_actOf yX8_actOf, Cond.code yX8_actOf cX8_actOf 6 (some .int), Cond.fieldLink RX8 41 "StepStoreModel" "acts" "[I", Cond.fieldLink RX8 54 "StepStoreModel" "word" "[I", Cond.methodLink RX8 172 yX8_partOf, Cond.static yX8_partOf, Cond.code yX8_partOf cX8_partOf 1 (some .int), Cond.methodLink RX8 220 yX8_isNew, Cond.instanceMethod yX8_isNew, Cond.selects RX8 yX8_isNew yX8_isNew]
def wsX8_findFields_r2 : List Cond := [Cond.code yX8_isNew cX8_isNew 7 (some .boolean), Cond.methodLink RX8 202 yX8_areSame, Cond.instanceMethod yX8_areSame, Cond.selects RX8 yX8_areSame yX8_areSame, Cond.code yX8_areSame cX8_areSame 3 (some .boolean), Cond.fieldLink RX8 32 "StepStoreModel" "dOf" "[I", Cond.fieldLink RX8 35 "StepStoreModel" "xOf" "[I", Cond.fieldLink RX8 38 "StepStoreModel" "yOf" "[I", Cond.methodLink RX8 223 yX8_findGroups, Cond.instanceMethod yX8_findGroups, Cond.selects RX8 yX8_findGroups yX8_findGroups, Cond.code yX8_findGroups cX8_findGroups 3 none, Cond.fieldLink RX8 226 "StepStoreModel" "groups" "I", Cond.fieldLink RX8 94 "StepStoreModel" "groupOf" "[I", Cond.fieldLink RX8 97 "StepStoreModel" "groupActs" "[I", Cond.methodLink RX8 229 yX8_isMet, Cond.instanceMethod yX8_isMet, Cond.selects RX8 yX8_isMet yX8_isMet, Cond.code yX8_isMet cX8_isMet 5 (some .boolean)]
def wsX8_findFields : List Cond := .code yX8_findFields cX8_findFields 6 none :: ((wsX8_findFields_r1 ++ wsX8_findFields_r2) ++ wsX80)
def wsX8_store_r1 : List Cond := [Cond.fieldLink RX8 205 "StepStoreModel" "places" "I", Cond.fieldLink RX8 57 "StepStoreModel" "wordCount" "[I", Cond.fieldLink RX8 82 "StepStoreModel" "placeOf" "[I", Cond.fieldLink RX8 164 "StepStoreModel" "isStored" "Z", Cond.methodLink RX8 194 yX8_packs, Cond.instanceMethod yX8_packs, Cond.selects RX8 yX8_packs yX8_packs, Cond.initialized RX8, Cond.code yX8_packs cX8_packs 8 none, Cond.fieldLink RX8 66 "StepStoreModel" "isPacked" "[Z", Cond.fieldLink RX8 41 "StepStoreModel" "acts" "[I", Cond.fieldLink RX8 60 "StepStoreModel" "later" "[I", Cond.fieldLink RX8 63 "StepStoreModel" "notBefore" "[I", Cond.fieldLink RX8 51 "StepStoreModel" "fewest" "[I", Cond.fieldLink RX8 54 "StepStoreModel" "word" "[I", Cond.methodLink RX8 186 yX8_needed, Cond.instanceMethod yX8_needed, Cond.selects RX8 yX8_needed yX8_needed, Cond.code yX8_needed cX8_needed 3 (some .int), Cond.fieldLink RX8 29 "StepStoreModel" "kind" "[I", Cond.methodLink RX8 180 yX8_writes, Cond.instanceMethod yX8_writes, Cond.selects RX8 yX8_writes yX8_writes, Cond.code yX8_writes cX8_writes 3 (some .int)]
def wsX8_store_r2 : List Cond := [Cond.fieldLink RX8 32 "StepStoreModel" "dOf" "[I", Cond.methodLink RX8 145 yX8_hasD, Cond.static yX8_hasD, Cond.code yX8_hasD cX8_hasD 1 (some .boolean), Cond.methodLink RX8 183 yX8_reads, Cond.instanceMethod yX8_reads, Cond.selects RX8 yX8_reads yX8_reads, Cond.code yX8_reads cX8_reads 3 (some .int), Cond.fieldLink RX8 35 "StepStoreModel" "xOf" "[I", Cond.fieldLink RX8 38 "StepStoreModel" "yOf" "[I", Cond.methodLink RX8 175 yX8_canTrap, Cond.static yX8_canTrap, Cond.code yX8_canTrap cX8_canTrap 1 (some .boolean), Cond.methodLink RX8 190 yX8_isWord, Cond.instanceMethod yX8_isWord, Cond.selects RX8 yX8_isWord yX8_isWord, Cond.code yX8_isWord cX8_isWord 8 (some .boolean), Cond.fieldLink RX8 44 "StepStoreModel" "buses" "I", Cond.methodLink RX8 172 yX8_partOf, Cond.static yX8_partOf, Cond.code yX8_partOf cX8_partOf 1 (some .int), Cond.methodLink RX8 211 yX8_lays, Cond.instanceMethod yX8_lays, Cond.selects RX8 yX8_lays yX8_lays]
def wsX8_store_r3 : List Cond := [Cond.code yX8_lays cX8_lays 5 (some .int), Cond.fieldLink RX8 76 "StepStoreModel" "goesOn" "[I", Cond.fieldLink RX8 79 "StepStoreModel" "sharers" "[I", Cond.fieldLink RX8 70 "StepStoreModel" "placeRow" "[I", Cond.fieldLink RX8 73 "StepStoreModel" "placeWord" "[I", Cond.methodLink RX8 208 yX8_isLike, Cond.instanceMethod yX8_isLike, Cond.selects RX8 yX8_isLike yX8_isLike, Cond.code yX8_isLike cX8_isLike 7 (some .boolean), Cond.methodLink RX8 198 yX8_actOf, Cond.instanceMethod yX8_actOf, Cond.selects RX8 yX8_actOf yX8_actOf, Cond.code yX8_actOf cX8_actOf 6 (some .int), Cond.methodLink RX8 202 yX8_areSame, Cond.instanceMethod yX8_areSame, Cond.selects RX8 yX8_areSame yX8_areSame, Cond.code yX8_areSame cX8_areSame 3 (some .boolean), Cond.methodLink RX8 214 yX8_findFields, Cond.instanceMethod yX8_findFields, Cond.selects RX8 yX8_findFields yX8_findFields, Cond.code yX8_findFields cX8_findFields 6 none, Cond.fieldLink RX8 88 "StepStoreModel" "different" "[I", Cond.fieldLink RX8 91 "StepStoreModel" "meets" "[I", Cond.fieldLink RX8 85 "StepStoreModel" "fieldAct" "[I"]
def wsX8_store_r4 : List Cond := [Cond.methodLink RX8 217 yX8_actsAt, Cond.instanceMethod yX8_actsAt, Cond.selects RX8 yX8_actsAt yX8_actsAt, Cond.code yX8_actsAt cX8_actsAt 3 (some .int), Cond.methodLink RX8 220 yX8_isNew, Cond.instanceMethod yX8_isNew, Cond.selects RX8 yX8_isNew yX8_isNew, Cond.code yX8_isNew cX8_isNew 7 (some .boolean), Cond.methodLink RX8 223 yX8_findGroups, Cond.instanceMethod yX8_findGroups, Cond.selects RX8 yX8_findGroups yX8_findGroups, Cond.code yX8_findGroups cX8_findGroups 3 none, Cond.fieldLink RX8 226 "StepStoreModel" "groups" "I", Cond.fieldLink RX8 94 "StepStoreModel" "groupOf" "[I", Cond.fieldLink RX8 97 "StepStoreModel" "groupActs" "[I", Cond.methodLink RX8 229 yX8_isMet, Cond.instanceMethod yX8_isMet, Cond.selects RX8 yX8_isMet yX8_isMet, Cond.code yX8_isMet cX8_isMet 5 (some .boolean)]
def wsX8_store : List Cond := .code yX8_store cX8_store 4 (some .int) :: ((wsX8_store_r1 ++ (wsX8_store_r2 ++ (wsX8_store_r3 ++ wsX8_store_r4))) ++ wsX80)
def wsX8_place : List Cond := .code yX8_place cX8_place 3 (some .int) :: ([.fieldLink RX8 164 "StepStoreModel" "isStored" "Z", .fieldLink RX8 57 "StepStoreModel" "wordCount" "[I", .fieldLink RX8 82 "StepStoreModel" "placeOf" "[I", .methodLink RX8 157 yX8_isInstruction, .static yX8_isInstruction, .initialized RX8, .code yX8_isInstruction cX8_isInstruction 1 (some .boolean), .methodLink RX8 122 yX8_no, .instanceMethod yX8_no, .selects RX8 yX8_no yX8_no, .code yX8_no cX8_no 2 (some .int), .fieldLink RX8 48 "StepStoreModel" "refused" "[I", .methodLink RX8 128 yX8_isIn, .static yX8_isIn, .code yX8_isIn cX8_isIn 6 (some .boolean)] ++ wsX80)
def wsX8_at_r1 : List Cond := [Cond.fieldLink RX8 164 "StepStoreModel" "isStored" "Z", Cond.fieldLink RX8 205 "StepStoreModel" "places" "I", Cond.fieldLink RX8 76 "StepStoreModel" "goesOn" "[I", Cond.fieldLink RX8 79 "StepStoreModel" "sharers" "[I", Cond.methodLink RX8 122 yX8_no, Cond.instanceMethod yX8_no, Cond.selects RX8 yX8_no yX8_no, Cond.initialized RX8, Cond.code yX8_no cX8_no 2 (some .int), Cond.fieldLink RX8 48 "StepStoreModel" "refused" "[I", Cond.methodLink RX8 128 yX8_isIn, Cond.static yX8_isIn, Cond.code yX8_isIn cX8_isIn 6 (some .boolean), Cond.methodLink RX8 217 yX8_actsAt, Cond.instanceMethod yX8_actsAt, Cond.selects RX8 yX8_actsAt yX8_actsAt, Cond.code yX8_actsAt cX8_actsAt 3 (some .int), Cond.fieldLink RX8 70 "StepStoreModel" "placeRow" "[I", Cond.fieldLink RX8 73 "StepStoreModel" "placeWord" "[I", Cond.methodLink RX8 198 yX8_actOf, Cond.instanceMethod yX8_actOf, Cond.selects RX8 yX8_actOf yX8_actOf, Cond.code yX8_actOf cX8_actOf 6 (some .int), Cond.fieldLink RX8 41 "StepStoreModel" "acts" "[I"]
def wsX8_at_r2 : List Cond := [Cond.fieldLink RX8 54 "StepStoreModel" "word" "[I"]
def wsX8_at : List Cond := .code yX8_at cX8_at 3 (some .int) :: ((wsX8_at_r1 ++ wsX8_at_r2) ++ wsX80)
def wsX8_bits : List Cond := .code yX8_bits cX8_bits 2 (some .int) :: ([])
def wsX8_group : List Cond := .code yX8_group cX8_group 2 (some .int) :: ([.constantLong RX8 232 (6), .fieldLink RX8 164 "StepStoreModel" "isStored" "Z", .fieldLink RX8 94 "StepStoreModel" "groupOf" "[I", .methodLink RX8 128 yX8_isIn, .static yX8_isIn, .initialized RX8, .code yX8_isIn cX8_isIn 6 (some .boolean), .methodLink RX8 122 yX8_no, .instanceMethod yX8_no, .selects RX8 yX8_no yX8_no, .code yX8_no cX8_no 2 (some .int), .fieldLink RX8 48 "StepStoreModel" "refused" "[I"] ++ wsX80)
def wsX8_narrow : List Cond := .code yX8_narrow cX8_narrow 4 (some .int) :: ([.fieldLink RX8 164 "StepStoreModel" "isStored" "Z", .constantLong RX8 178 (3), .fieldLink RX8 226 "StepStoreModel" "groups" "I", .fieldLink RX8 88 "StepStoreModel" "different" "[I", .fieldLink RX8 97 "StepStoreModel" "groupActs" "[I", .fieldLink RX8 205 "StepStoreModel" "places" "I", .methodLink RX8 122 yX8_no, .instanceMethod yX8_no, .selects RX8 yX8_no yX8_no, .initialized RX8, .code yX8_no cX8_no 2 (some .int), .fieldLink RX8 48 "StepStoreModel" "refused" "[I", .methodLink RX8 128 yX8_isIn, .static yX8_isIn, .code yX8_isIn cX8_isIn 6 (some .boolean), .methodLink RX8 234 yX8_bits, .static yX8_bits, .code yX8_bits cX8_bits 2 (some .int)] ++ wsX80)
def wsX8_copies : List Cond := .code yX8_copies cX8_copies 3 none :: ([])
def wsX8_holds : List Cond := .code yX8_holds cX8_holds 2 (some .boolean) :: ([.fieldLink RX8 29 "StepStoreModel" "kind" "[I", .fieldLink RX8 16 "StepStoreModel" "ahead" "[J", .fieldLink RX8 35 "StepStoreModel" "xOf" "[I", .fieldLink RX8 38 "StepStoreModel" "yOf" "[I", .constantLong RX8 237 (63)] ++ wsX80)
def wsX8_puts : List Cond := .code yX8_puts cX8_puts 4 none :: ([.fieldLink RX8 7 "StepStoreModel" "now" "[J", .fieldLink RX8 32 "StepStoreModel" "dOf" "[I", .methodLink RX8 132 yX8_cut, .instanceMethod yX8_cut, .selects RX8 yX8_cut yX8_cut, .initialized RX8, .code yX8_cut cX8_cut 4 (some .long), .fieldLink RX8 25 "StepStoreModel" "widths" "[I"] ++ wsX80)
def wsX8_worker : List Cond := .code yX8_worker cX8_worker 9 none :: ([.fieldLink RX8 16 "StepStoreModel" "ahead" "[J", .fieldLink RX8 35 "StepStoreModel" "xOf" "[I", .fieldLink RX8 38 "StepStoreModel" "yOf" "[I", .fieldLink RX8 29 "StepStoreModel" "kind" "[I", .fieldLink RX8 25 "StepStoreModel" "widths" "[I", .fieldLink RX8 32 "StepStoreModel" "dOf" "[I", .fieldLink RX8 7 "StepStoreModel" "now" "[J", .methodLink RX8 239 yX8_puts, .instanceMethod yX8_puts, .selects RX8 yX8_puts yX8_puts, .initialized RX8, .code yX8_puts cX8_puts 4 none, .methodLink RX8 132 yX8_cut, .instanceMethod yX8_cut, .selects RX8 yX8_cut yX8_cut, .code yX8_cut cX8_cut 4 (some .long)] ++ wsX80)
def wsX8_does : List Cond := .code yX8_does cX8_does 2 none :: ([.fieldLink RX8 29 "StepStoreModel" "kind" "[I", .fieldLink RX8 35 "StepStoreModel" "xOf" "[I", .fieldLink RX8 16 "StepStoreModel" "ahead" "[J", .fieldLink RX8 38 "StepStoreModel" "yOf" "[I", .fieldLink RX8 7 "StepStoreModel" "now" "[J", .methodLink RX8 239 yX8_puts, .instanceMethod yX8_puts, .selects RX8 yX8_puts yX8_puts, .initialized RX8, .code yX8_puts cX8_puts 4 none, .fieldLink RX8 32 "StepStoreModel" "dOf" "[I", .methodLink RX8 132 yX8_cut, .instanceMethod yX8_cut, .selects RX8 yX8_cut yX8_cut, .code yX8_cut cX8_cut 4 (some .long), .fieldLink RX8 25 "StepStoreModel" "widths" "[I", .methodLink RX8 243 yX8_worker, .instanceMethod yX8_worker, .selects RX8 yX8_worker yX8_worker, .code yX8_worker cX8_worker 9 none] ++ wsX80)
def wsX8_plainly_r1 : List Cond := [Cond.fieldLink RX8 7 "StepStoreModel" "now" "[J", Cond.fieldLink RX8 19 "StepStoreModel" "before" "[J", Cond.fieldLink RX8 250 "StepStoreModel" "didActs" "I", Cond.fieldLink RX8 253 "StepStoreModel" "didWords" "I", Cond.fieldLink RX8 100 "StepStoreModel" "trapped" "I", Cond.fieldLink RX8 41 "StepStoreModel" "acts" "[I", Cond.fieldLink RX8 16 "StepStoreModel" "ahead" "[J", Cond.fieldLink RX8 29 "StepStoreModel" "kind" "[I", Cond.methodLink RX8 246 yX8_copies, Cond.static yX8_copies, Cond.initialized RX8, Cond.code yX8_copies cX8_copies 3 none, Cond.methodLink RX8 256 yX8_holds, Cond.instanceMethod yX8_holds, Cond.selects RX8 yX8_holds yX8_holds, Cond.code yX8_holds cX8_holds 2 (some .boolean), Cond.fieldLink RX8 35 "StepStoreModel" "xOf" "[I", Cond.fieldLink RX8 38 "StepStoreModel" "yOf" "[I", Cond.constantLong RX8 237 (63), Cond.methodLink RX8 259 yX8_does, Cond.instanceMethod yX8_does, Cond.selects RX8 yX8_does yX8_does, Cond.code yX8_does cX8_does 2 none, Cond.methodLink RX8 239 yX8_puts]
def wsX8_plainly_r2 : List Cond := [Cond.instanceMethod yX8_puts, Cond.selects RX8 yX8_puts yX8_puts, Cond.code yX8_puts cX8_puts 4 none, Cond.fieldLink RX8 32 "StepStoreModel" "dOf" "[I", Cond.methodLink RX8 132 yX8_cut, Cond.instanceMethod yX8_cut, Cond.selects RX8 yX8_cut yX8_cut, Cond.code yX8_cut cX8_cut 4 (some .long), Cond.fieldLink RX8 25 "StepStoreModel" "widths" "[I", Cond.methodLink RX8 243 yX8_worker, Cond.instanceMethod yX8_worker, Cond.selects RX8 yX8_worker yX8_worker, Cond.code yX8_worker cX8_worker 9 none]
def wsX8_plainly : List Cond := .code yX8_plainly cX8_plainly 4 (some .int) :: ((wsX8_plainly_r1 ++ wsX8_plainly_r2) ++ wsX80)
def wsX8_byWords_r1 : List Cond := [Cond.fieldLink RX8 7 "StepStoreModel" "now" "[J", Cond.fieldLink RX8 19 "StepStoreModel" "before" "[J", Cond.fieldLink RX8 250 "StepStoreModel" "didActs" "I", Cond.fieldLink RX8 253 "StepStoreModel" "didWords" "I", Cond.fieldLink RX8 100 "StepStoreModel" "trapped" "I", Cond.fieldLink RX8 57 "StepStoreModel" "wordCount" "[I", Cond.fieldLink RX8 16 "StepStoreModel" "ahead" "[J", Cond.fieldLink RX8 41 "StepStoreModel" "acts" "[I", Cond.fieldLink RX8 54 "StepStoreModel" "word" "[I", Cond.fieldLink RX8 29 "StepStoreModel" "kind" "[I", Cond.methodLink RX8 194 yX8_packs, Cond.instanceMethod yX8_packs, Cond.selects RX8 yX8_packs yX8_packs, Cond.initialized RX8, Cond.code yX8_packs cX8_packs 8 none, Cond.fieldLink RX8 66 "StepStoreModel" "isPacked" "[Z", Cond.fieldLink RX8 60 "StepStoreModel" "later" "[I", Cond.fieldLink RX8 63 "StepStoreModel" "notBefore" "[I", Cond.fieldLink RX8 51 "StepStoreModel" "fewest" "[I", Cond.methodLink RX8 186 yX8_needed, Cond.instanceMethod yX8_needed, Cond.selects RX8 yX8_needed yX8_needed, Cond.code yX8_needed cX8_needed 3 (some .int), Cond.methodLink RX8 180 yX8_writes]
def wsX8_byWords_r2 : List Cond := [Cond.instanceMethod yX8_writes, Cond.selects RX8 yX8_writes yX8_writes, Cond.code yX8_writes cX8_writes 3 (some .int), Cond.fieldLink RX8 32 "StepStoreModel" "dOf" "[I", Cond.methodLink RX8 145 yX8_hasD, Cond.static yX8_hasD, Cond.code yX8_hasD cX8_hasD 1 (some .boolean), Cond.methodLink RX8 183 yX8_reads, Cond.instanceMethod yX8_reads, Cond.selects RX8 yX8_reads yX8_reads, Cond.code yX8_reads cX8_reads 3 (some .int), Cond.fieldLink RX8 35 "StepStoreModel" "xOf" "[I", Cond.fieldLink RX8 38 "StepStoreModel" "yOf" "[I", Cond.methodLink RX8 175 yX8_canTrap, Cond.static yX8_canTrap, Cond.code yX8_canTrap cX8_canTrap 1 (some .boolean), Cond.methodLink RX8 190 yX8_isWord, Cond.instanceMethod yX8_isWord, Cond.selects RX8 yX8_isWord yX8_isWord, Cond.code yX8_isWord cX8_isWord 8 (some .boolean), Cond.fieldLink RX8 44 "StepStoreModel" "buses" "I", Cond.methodLink RX8 172 yX8_partOf, Cond.static yX8_partOf, Cond.code yX8_partOf cX8_partOf 1 (some .int)]
def wsX8_byWords_r3 : List Cond := [Cond.methodLink RX8 246 yX8_copies, Cond.static yX8_copies, Cond.code yX8_copies cX8_copies 3 none, Cond.methodLink RX8 256 yX8_holds, Cond.instanceMethod yX8_holds, Cond.selects RX8 yX8_holds yX8_holds, Cond.code yX8_holds cX8_holds 2 (some .boolean), Cond.constantLong RX8 237 (63), Cond.methodLink RX8 259 yX8_does, Cond.instanceMethod yX8_does, Cond.selects RX8 yX8_does yX8_does, Cond.code yX8_does cX8_does 2 none, Cond.methodLink RX8 239 yX8_puts, Cond.instanceMethod yX8_puts, Cond.selects RX8 yX8_puts yX8_puts, Cond.code yX8_puts cX8_puts 4 none, Cond.methodLink RX8 132 yX8_cut, Cond.instanceMethod yX8_cut, Cond.selects RX8 yX8_cut yX8_cut, Cond.code yX8_cut cX8_cut 4 (some .long), Cond.fieldLink RX8 25 "StepStoreModel" "widths" "[I", Cond.methodLink RX8 243 yX8_worker, Cond.instanceMethod yX8_worker, Cond.selects RX8 yX8_worker yX8_worker]
def wsX8_byWords_r4 : List Cond := [Cond.code yX8_worker cX8_worker 9 none]
def wsX8_byWords : List Cond := .code yX8_byWords cX8_byWords 6 (some .int) :: ((wsX8_byWords_r1 ++ (wsX8_byWords_r2 ++ (wsX8_byWords_r3 ++ wsX8_byWords_r4))) ++ wsX80)
def wsX8_run_r1 : List Cond := [Cond.methodLink RX8 157 yX8_isInstruction, Cond.static yX8_isInstruction, Cond.initialized RX8, Cond.code yX8_isInstruction cX8_isInstruction 1 (some .boolean), Cond.methodLink RX8 122 yX8_no, Cond.instanceMethod yX8_no, Cond.selects RX8 yX8_no yX8_no, Cond.code yX8_no cX8_no 2 (some .int), Cond.fieldLink RX8 48 "StepStoreModel" "refused" "[I", Cond.methodLink RX8 262 yX8_byWords, Cond.instanceMethod yX8_byWords, Cond.selects RX8 yX8_byWords yX8_byWords, Cond.code yX8_byWords cX8_byWords 6 (some .int), Cond.fieldLink RX8 7 "StepStoreModel" "now" "[J", Cond.fieldLink RX8 19 "StepStoreModel" "before" "[J", Cond.fieldLink RX8 250 "StepStoreModel" "didActs" "I", Cond.fieldLink RX8 253 "StepStoreModel" "didWords" "I", Cond.fieldLink RX8 100 "StepStoreModel" "trapped" "I", Cond.fieldLink RX8 57 "StepStoreModel" "wordCount" "[I", Cond.fieldLink RX8 16 "StepStoreModel" "ahead" "[J", Cond.fieldLink RX8 41 "StepStoreModel" "acts" "[I", Cond.fieldLink RX8 54 "StepStoreModel" "word" "[I", Cond.fieldLink RX8 29 "StepStoreModel" "kind" "[I", Cond.methodLink RX8 194 yX8_packs]
def wsX8_run_r2 : List Cond := [Cond.instanceMethod yX8_packs, Cond.selects RX8 yX8_packs yX8_packs, Cond.code yX8_packs cX8_packs 8 none, Cond.fieldLink RX8 66 "StepStoreModel" "isPacked" "[Z", Cond.fieldLink RX8 60 "StepStoreModel" "later" "[I", Cond.fieldLink RX8 63 "StepStoreModel" "notBefore" "[I", Cond.fieldLink RX8 51 "StepStoreModel" "fewest" "[I", Cond.methodLink RX8 186 yX8_needed, Cond.instanceMethod yX8_needed, Cond.selects RX8 yX8_needed yX8_needed, Cond.code yX8_needed cX8_needed 3 (some .int), Cond.methodLink RX8 180 yX8_writes, Cond.instanceMethod yX8_writes, Cond.selects RX8 yX8_writes yX8_writes, Cond.code yX8_writes cX8_writes 3 (some .int), Cond.fieldLink RX8 32 "StepStoreModel" "dOf" "[I", Cond.methodLink RX8 145 yX8_hasD, Cond.static yX8_hasD, Cond.code yX8_hasD cX8_hasD 1 (some .boolean), Cond.methodLink RX8 183 yX8_reads, Cond.instanceMethod yX8_reads, Cond.selects RX8 yX8_reads yX8_reads, Cond.code yX8_reads cX8_reads 3 (some .int), Cond.fieldLink RX8 35 "StepStoreModel" "xOf" "[I"]
def wsX8_run_r3 : List Cond := [Cond.fieldLink RX8 38 "StepStoreModel" "yOf" "[I", Cond.methodLink RX8 175 yX8_canTrap, Cond.static yX8_canTrap, Cond.code yX8_canTrap cX8_canTrap 1 (some .boolean), Cond.methodLink RX8 190 yX8_isWord, Cond.instanceMethod yX8_isWord, Cond.selects RX8 yX8_isWord yX8_isWord, Cond.code yX8_isWord cX8_isWord 8 (some .boolean), Cond.fieldLink RX8 44 "StepStoreModel" "buses" "I", Cond.methodLink RX8 172 yX8_partOf, Cond.static yX8_partOf, Cond.code yX8_partOf cX8_partOf 1 (some .int), Cond.methodLink RX8 246 yX8_copies, Cond.static yX8_copies, Cond.code yX8_copies cX8_copies 3 none, Cond.methodLink RX8 256 yX8_holds, Cond.instanceMethod yX8_holds, Cond.selects RX8 yX8_holds yX8_holds, Cond.code yX8_holds cX8_holds 2 (some .boolean), Cond.constantLong RX8 237 (63), Cond.methodLink RX8 259 yX8_does, Cond.instanceMethod yX8_does, Cond.selects RX8 yX8_does yX8_does, Cond.code yX8_does cX8_does 2 none]
def wsX8_run_r4 : List Cond := [Cond.methodLink RX8 239 yX8_puts, Cond.instanceMethod yX8_puts, Cond.selects RX8 yX8_puts yX8_puts, Cond.code yX8_puts cX8_puts 4 none, Cond.methodLink RX8 132 yX8_cut, Cond.instanceMethod yX8_cut, Cond.selects RX8 yX8_cut yX8_cut, Cond.code yX8_cut cX8_cut 4 (some .long), Cond.fieldLink RX8 25 "StepStoreModel" "widths" "[I", Cond.methodLink RX8 243 yX8_worker, Cond.instanceMethod yX8_worker, Cond.selects RX8 yX8_worker yX8_worker, Cond.code yX8_worker cX8_worker 9 none, Cond.methodLink RX8 265 yX8_plainly, Cond.instanceMethod yX8_plainly, Cond.selects RX8 yX8_plainly yX8_plainly, Cond.code yX8_plainly cX8_plainly 4 (some .int)]
def wsX8_run : List Cond := .code yX8_run cX8_run 3 (some .int) :: ((wsX8_run_r1 ++ (wsX8_run_r2 ++ (wsX8_run_r3 ++ wsX8_run_r4))) ++ wsX80)
def wsX8_told : List Cond := .code yX8_told cX8_told 2 (some .int) :: ([.constantLong RX8 141 (2), .fieldLink RX8 250 "StepStoreModel" "didActs" "I", .fieldLink RX8 253 "StepStoreModel" "didWords" "I", .fieldLink RX8 100 "StepStoreModel" "trapped" "I", .methodLink RX8 128 yX8_isIn, .static yX8_isIn, .initialized RX8, .code yX8_isIn cX8_isIn 6 (some .boolean), .methodLink RX8 122 yX8_no, .instanceMethod yX8_no, .selects RX8 yX8_no yX8_no, .code yX8_no cX8_no 2 (some .int), .fieldLink RX8 48 "StepStoreModel" "refused" "[I"] ++ wsX80)
def wsX8_beside_r1 : List Cond := [Cond.fieldLink RX8 250 "StepStoreModel" "didActs" "I", Cond.fieldLink RX8 253 "StepStoreModel" "didWords" "I", Cond.fieldLink RX8 100 "StepStoreModel" "trapped" "I", Cond.fieldLink RX8 7 "StepStoreModel" "now" "[J", Cond.fieldLink RX8 103 "StepStoreModel" "first" "[J", Cond.fieldLink RX8 22 "StepStoreModel" "ended" "[J", Cond.methodLink RX8 157 yX8_isInstruction, Cond.static yX8_isInstruction, Cond.initialized RX8, Cond.code yX8_isInstruction cX8_isInstruction 1 (some .boolean), Cond.methodLink RX8 122 yX8_no, Cond.instanceMethod yX8_no, Cond.selects RX8 yX8_no yX8_no, Cond.code yX8_no cX8_no 2 (some .int), Cond.fieldLink RX8 48 "StepStoreModel" "refused" "[I", Cond.methodLink RX8 246 yX8_copies, Cond.static yX8_copies, Cond.code yX8_copies cX8_copies 3 none, Cond.methodLink RX8 265 yX8_plainly, Cond.instanceMethod yX8_plainly, Cond.selects RX8 yX8_plainly yX8_plainly, Cond.code yX8_plainly cX8_plainly 4 (some .int), Cond.fieldLink RX8 19 "StepStoreModel" "before" "[J", Cond.fieldLink RX8 41 "StepStoreModel" "acts" "[I"]
def wsX8_beside_r2 : List Cond := [Cond.fieldLink RX8 16 "StepStoreModel" "ahead" "[J", Cond.fieldLink RX8 29 "StepStoreModel" "kind" "[I", Cond.methodLink RX8 256 yX8_holds, Cond.instanceMethod yX8_holds, Cond.selects RX8 yX8_holds yX8_holds, Cond.code yX8_holds cX8_holds 2 (some .boolean), Cond.fieldLink RX8 35 "StepStoreModel" "xOf" "[I", Cond.fieldLink RX8 38 "StepStoreModel" "yOf" "[I", Cond.constantLong RX8 237 (63), Cond.methodLink RX8 259 yX8_does, Cond.instanceMethod yX8_does, Cond.selects RX8 yX8_does yX8_does, Cond.code yX8_does cX8_does 2 none, Cond.methodLink RX8 239 yX8_puts, Cond.instanceMethod yX8_puts, Cond.selects RX8 yX8_puts yX8_puts, Cond.code yX8_puts cX8_puts 4 none, Cond.fieldLink RX8 32 "StepStoreModel" "dOf" "[I", Cond.methodLink RX8 132 yX8_cut, Cond.instanceMethod yX8_cut, Cond.selects RX8 yX8_cut yX8_cut, Cond.code yX8_cut cX8_cut 4 (some .long), Cond.fieldLink RX8 25 "StepStoreModel" "widths" "[I", Cond.methodLink RX8 243 yX8_worker]
def wsX8_beside_r3 : List Cond := [Cond.instanceMethod yX8_worker, Cond.selects RX8 yX8_worker yX8_worker, Cond.code yX8_worker cX8_worker 9 none, Cond.methodLink RX8 262 yX8_byWords, Cond.instanceMethod yX8_byWords, Cond.selects RX8 yX8_byWords yX8_byWords, Cond.code yX8_byWords cX8_byWords 6 (some .int), Cond.fieldLink RX8 57 "StepStoreModel" "wordCount" "[I", Cond.fieldLink RX8 54 "StepStoreModel" "word" "[I", Cond.methodLink RX8 194 yX8_packs, Cond.instanceMethod yX8_packs, Cond.selects RX8 yX8_packs yX8_packs, Cond.code yX8_packs cX8_packs 8 none, Cond.fieldLink RX8 66 "StepStoreModel" "isPacked" "[Z", Cond.fieldLink RX8 60 "StepStoreModel" "later" "[I", Cond.fieldLink RX8 63 "StepStoreModel" "notBefore" "[I", Cond.fieldLink RX8 51 "StepStoreModel" "fewest" "[I", Cond.methodLink RX8 186 yX8_needed, Cond.instanceMethod yX8_needed, Cond.selects RX8 yX8_needed yX8_needed, Cond.code yX8_needed cX8_needed 3 (some .int), Cond.methodLink RX8 180 yX8_writes, Cond.instanceMethod yX8_writes, Cond.selects RX8 yX8_writes yX8_writes]
def wsX8_beside_r4 : List Cond := [Cond.code yX8_writes cX8_writes 3 (some .int), Cond.methodLink RX8 145 yX8_hasD, Cond.static yX8_hasD, Cond.code yX8_hasD cX8_hasD 1 (some .boolean), Cond.methodLink RX8 183 yX8_reads, Cond.instanceMethod yX8_reads, Cond.selects RX8 yX8_reads yX8_reads, Cond.code yX8_reads cX8_reads 3 (some .int), Cond.methodLink RX8 175 yX8_canTrap, Cond.static yX8_canTrap, Cond.code yX8_canTrap cX8_canTrap 1 (some .boolean), Cond.methodLink RX8 190 yX8_isWord, Cond.instanceMethod yX8_isWord, Cond.selects RX8 yX8_isWord yX8_isWord, Cond.code yX8_isWord cX8_isWord 8 (some .boolean), Cond.fieldLink RX8 44 "StepStoreModel" "buses" "I", Cond.methodLink RX8 172 yX8_partOf, Cond.static yX8_partOf, Cond.code yX8_partOf cX8_partOf 1 (some .int)]
def wsX8_beside : List Cond := .code yX8_beside cX8_beside 8 (some .int) :: ((wsX8_beside_r1 ++ (wsX8_beside_r2 ++ (wsX8_beside_r3 ++ wsX8_beside_r4))) ++ wsX80)
def wsX8_code : List Cond := .code yX8_code cX8_code 4 (some .int) :: ([.constantLong RX8 268 (15), .fieldLink RX8 106 "StepStoreModel" "codes" "[I", .methodLink RX8 128 yX8_isIn, .static yX8_isIn, .initialized RX8, .code yX8_isIn cX8_isIn 6 (some .boolean), .methodLink RX8 157 yX8_isInstruction, .static yX8_isInstruction, .code yX8_isInstruction cX8_isInstruction 1 (some .boolean), .methodLink RX8 122 yX8_no, .instanceMethod yX8_no, .selects RX8 yX8_no yX8_no, .code yX8_no cX8_no 2 (some .int), .fieldLink RX8 48 "StepStoreModel" "refused" "[I"] ++ wsX80)
def wsX8_step_r1 : List Cond := [Cond.constantLong RX8 270 (1000), Cond.fieldLink RX8 272 "StepStoreModel" "howEnded" "I", Cond.fieldLink RX8 7 "StepStoreModel" "now" "[J", Cond.constantLong RX8 237 (63), Cond.fieldLink RX8 106 "StepStoreModel" "codes" "[I", Cond.constantLong RX8 275 (16), Cond.fieldLink RX8 277 "StepStoreModel" "traps" "I", Cond.fieldLink RX8 280 "StepStoreModel" "stepped" "I", Cond.methodLink RX8 122 yX8_no, Cond.instanceMethod yX8_no, Cond.selects RX8 yX8_no yX8_no, Cond.initialized RX8, Cond.code yX8_no cX8_no 2 (some .int), Cond.fieldLink RX8 48 "StepStoreModel" "refused" "[I", Cond.methodLink RX8 128 yX8_isIn, Cond.static yX8_isIn, Cond.code yX8_isIn cX8_isIn 6 (some .boolean), Cond.methodLink RX8 132 yX8_cut, Cond.instanceMethod yX8_cut, Cond.selects RX8 yX8_cut yX8_cut, Cond.code yX8_cut cX8_cut 4 (some .long), Cond.fieldLink RX8 25 "StepStoreModel" "widths" "[I", Cond.methodLink RX8 262 yX8_byWords, Cond.instanceMethod yX8_byWords]
def wsX8_step_r2 : List Cond := [Cond.selects RX8 yX8_byWords yX8_byWords, Cond.code yX8_byWords cX8_byWords 6 (some .int), Cond.fieldLink RX8 19 "StepStoreModel" "before" "[J", Cond.fieldLink RX8 250 "StepStoreModel" "didActs" "I", Cond.fieldLink RX8 253 "StepStoreModel" "didWords" "I", Cond.fieldLink RX8 100 "StepStoreModel" "trapped" "I", Cond.fieldLink RX8 57 "StepStoreModel" "wordCount" "[I", Cond.fieldLink RX8 16 "StepStoreModel" "ahead" "[J", Cond.fieldLink RX8 41 "StepStoreModel" "acts" "[I", Cond.fieldLink RX8 54 "StepStoreModel" "word" "[I", Cond.fieldLink RX8 29 "StepStoreModel" "kind" "[I", Cond.methodLink RX8 194 yX8_packs, Cond.instanceMethod yX8_packs, Cond.selects RX8 yX8_packs yX8_packs, Cond.code yX8_packs cX8_packs 8 none, Cond.fieldLink RX8 66 "StepStoreModel" "isPacked" "[Z", Cond.fieldLink RX8 60 "StepStoreModel" "later" "[I", Cond.fieldLink RX8 63 "StepStoreModel" "notBefore" "[I", Cond.fieldLink RX8 51 "StepStoreModel" "fewest" "[I", Cond.methodLink RX8 186 yX8_needed, Cond.instanceMethod yX8_needed, Cond.selects RX8 yX8_needed yX8_needed, Cond.code yX8_needed cX8_needed 3 (some .int), Cond.methodLink RX8 180 yX8_writes]
def wsX8_step_r3 : List Cond := [Cond.instanceMethod yX8_writes, Cond.selects RX8 yX8_writes yX8_writes, Cond.code yX8_writes cX8_writes 3 (some .int), Cond.fieldLink RX8 32 "StepStoreModel" "dOf" "[I", Cond.methodLink RX8 145 yX8_hasD, Cond.static yX8_hasD, Cond.code yX8_hasD cX8_hasD 1 (some .boolean), Cond.methodLink RX8 183 yX8_reads, Cond.instanceMethod yX8_reads, Cond.selects RX8 yX8_reads yX8_reads, Cond.code yX8_reads cX8_reads 3 (some .int), Cond.fieldLink RX8 35 "StepStoreModel" "xOf" "[I", Cond.fieldLink RX8 38 "StepStoreModel" "yOf" "[I", Cond.methodLink RX8 175 yX8_canTrap, Cond.static yX8_canTrap, Cond.code yX8_canTrap cX8_canTrap 1 (some .boolean), Cond.methodLink RX8 190 yX8_isWord, Cond.instanceMethod yX8_isWord, Cond.selects RX8 yX8_isWord yX8_isWord, Cond.code yX8_isWord cX8_isWord 8 (some .boolean), Cond.fieldLink RX8 44 "StepStoreModel" "buses" "I", Cond.methodLink RX8 172 yX8_partOf, Cond.static yX8_partOf, Cond.code yX8_partOf cX8_partOf 1 (some .int)]
def wsX8_step_r4 : List Cond := [Cond.methodLink RX8 246 yX8_copies, Cond.static yX8_copies, Cond.code yX8_copies cX8_copies 3 none, Cond.methodLink RX8 256 yX8_holds, Cond.instanceMethod yX8_holds, Cond.selects RX8 yX8_holds yX8_holds, Cond.code yX8_holds cX8_holds 2 (some .boolean), Cond.methodLink RX8 259 yX8_does, Cond.instanceMethod yX8_does, Cond.selects RX8 yX8_does yX8_does, Cond.code yX8_does cX8_does 2 none, Cond.methodLink RX8 239 yX8_puts, Cond.instanceMethod yX8_puts, Cond.selects RX8 yX8_puts yX8_puts, Cond.code yX8_puts cX8_puts 4 none, Cond.methodLink RX8 243 yX8_worker, Cond.instanceMethod yX8_worker, Cond.selects RX8 yX8_worker yX8_worker, Cond.code yX8_worker cX8_worker 9 none]
def wsX8_step : List Cond := .code yX8_step cX8_step 6 (some .int) :: ((wsX8_step_r1 ++ (wsX8_step_r2 ++ (wsX8_step_r3 ++ wsX8_step_r4))) ++ wsX80)
def wsX8_count : List Cond := .code yX8_count cX8_count 2 (some .int) :: ([.fieldLink RX8 280 "StepStoreModel" "stepped" "I", .fieldLink RX8 277 "StepStoreModel" "traps" "I", .fieldLink RX8 272 "StepStoreModel" "howEnded" "I", .methodLink RX8 122 yX8_no, .instanceMethod yX8_no, .selects RX8 yX8_no yX8_no, .initialized RX8, .code yX8_no cX8_no 2 (some .int), .fieldLink RX8 48 "StepStoreModel" "refused" "[I"] ++ wsX80)
def wsX8_image : List Cond := .code yX8_image cX8_image 3 (some .int) :: ([.fieldLink RX8 7 "StepStoreModel" "now" "[J", .fieldLink RX8 13 "StepStoreModel" "kept" "[J", .fieldLink RX8 283 "StepStoreModel" "hasImage" "Z", .methodLink RX8 246 yX8_copies, .static yX8_copies, .initialized RX8, .code yX8_copies cX8_copies 3 none] ++ wsX80)
def wsX8_restore : List Cond := .code yX8_restore cX8_restore 5 (some .int) :: ([.fieldLink RX8 283 "StepStoreModel" "hasImage" "Z", .fieldLink RX8 13 "StepStoreModel" "kept" "[J", .fieldLink RX8 7 "StepStoreModel" "now" "[J", .methodLink RX8 122 yX8_no, .instanceMethod yX8_no, .selects RX8 yX8_no yX8_no, .initialized RX8, .code yX8_no cX8_no 2 (some .int), .fieldLink RX8 48 "StepStoreModel" "refused" "[I", .methodLink RX8 132 yX8_cut, .instanceMethod yX8_cut, .selects RX8 yX8_cut yX8_cut, .code yX8_cut cX8_cut 4 (some .long), .fieldLink RX8 25 "StepStoreModel" "widths" "[I"] ++ wsX80)
def wsX8_lay : List Cond := .code yX8_lay cX8_lay 5 (some .int) :: ([.constantLong RX8 286 (64), .fieldLink RX8 115 "StepStoreModel" "rowSize" "I", .fieldLink RX8 7 "StepStoreModel" "now" "[J", .constantLong RX8 288 (65535), .fieldLink RX8 109 "StepStoreModel" "row" "[I", .constant RX8 290 (65536), .methodLink RX8 122 yX8_no, .instanceMethod yX8_no, .selects RX8 yX8_no yX8_no, .initialized RX8, .code yX8_no cX8_no 2 (some .int), .fieldLink RX8 48 "StepStoreModel" "refused" "[I"] ++ wsX80)
def wsX8_tear : List Cond := .code yX8_tear cX8_tear 2 (some .int) :: ([.fieldLink RX8 115 "StepStoreModel" "rowSize" "I"] ++ wsX80)
def wsX8_row : List Cond := .code yX8_row cX8_row 2 (some .int) :: ([.fieldLink RX8 115 "StepStoreModel" "rowSize" "I", .fieldLink RX8 109 "StepStoreModel" "row" "[I", .methodLink RX8 122 yX8_no, .instanceMethod yX8_no, .selects RX8 yX8_no yX8_no, .initialized RX8, .code yX8_no cX8_no 2 (some .int), .fieldLink RX8 48 "StepStoreModel" "refused" "[I", .methodLink RX8 128 yX8_isIn, .static yX8_isIn, .code yX8_isIn cX8_isIn 6 (some .boolean)] ++ wsX80)
def wsX8_copy : List Cond := .code yX8_copy cX8_copy 5 (some .int) :: ([.fieldLink RX8 115 "StepStoreModel" "rowSize" "I", .fieldLink RX8 112 "StepStoreModel" "moved" "[I", .fieldLink RX8 109 "StepStoreModel" "row" "[I", .methodLink RX8 122 yX8_no, .instanceMethod yX8_no, .selects RX8 yX8_no yX8_no, .initialized RX8, .code yX8_no cX8_no 2 (some .int), .fieldLink RX8 48 "StepStoreModel" "refused" "[I"] ++ wsX80)
def wsX8_status : List Cond := .code yX8_status cX8_status 2 (some .int) :: ([.constantLong RX8 291 (-7), .constantLong RX8 293 (-2), .fieldLink RX8 48 "StepStoreModel" "refused" "[I", .methodLink RX8 128 yX8_isIn, .static yX8_isIn, .initialized RX8, .code yX8_isIn cX8_isIn 6 (some .boolean), .methodLink RX8 122 yX8_no, .instanceMethod yX8_no, .selects RX8 yX8_no yX8_no, .code yX8_no cX8_no 2 (some .int)] ++ wsX80)
def wsJ9_max_7cf53 : List Cond := .code yJ9_max_7cf53 cJ9_max_7cf53 2 (some .int) :: ([])
def wsL_law_r1 : List Cond := [Cond.classLink RL 7 RX7, Cond.instantiable RX7 16, Cond.initialized RX7, Cond.classLink RL 10 RX8, Cond.instantiable RX8 44, Cond.initialized RX8, Cond.constantLong RL 18 (4294967295), Cond.methodLink RL 9 yX7_init, Cond.instanceMethod yX7_init, Cond.code yX7_init cX7_init 1 none, Cond.methodLink RX7 3 objectInit, Cond.instanceMethod objectInit, Cond.code objectInit ⟨#[0xb1]⟩ 1 none, Cond.classLink RX7 9 RX2, Cond.instantiable RX2 5, Cond.initialized RX2, Cond.fieldLink RX7 12 "StepStore" "inside" "LStepStore$Inside;", Cond.classLink RX7 16 RX5, Cond.instantiable RX5 7, Cond.initialized RX5, Cond.fieldLink RX7 19 "StepStore" "rows" "LStepStore$Rows;", Cond.classLink RX7 23 RX3, Cond.instantiable RX3 7, Cond.initialized RX3]
def wsL_law_r2 : List Cond := [Cond.fieldLink RX7 28 "StepStore" "packing" "LStepStore$Packing;", Cond.classLink RX7 32 RX4, Cond.instantiable RX4 9, Cond.initialized RX4, Cond.fieldLink RX7 37 "StepStore" "places" "LStepStore$Places;", Cond.classLink RX7 41 RX1, Cond.instantiable RX1 12, Cond.initialized RX1, Cond.fieldLink RX7 46 "StepStore" "fields" "LStepStore$Fields;", Cond.classLink RX7 50 RX0, Cond.instantiable RX0 10, Cond.initialized RX0, Cond.fieldLink RX7 55 "StepStore" "doer" "LStepStore$Doer;", Cond.arrayClass .int, Cond.fieldLink RX7 59 "StepStore" "told" "[I", Cond.fieldLink RX7 63 "StepStore" "table" "[I", Cond.arrayClass .long, Cond.fieldLink RX7 66 "StepStore" "image" "[J", Cond.arrayClass .short, Cond.fieldLink RX7 70 "StepStore" "line" "[S", Cond.fieldLink RX7 74 "StepStore" "refused" "[I", Cond.fieldLink RX7 83 "StepStore" "lineLength" "I", Cond.methodLink RX7 11 yX2_init, Cond.instanceMethod yX2_init]
def wsL_law_r3 : List Cond := [Cond.code yX2_init cX2_init 1 none, Cond.methodLink RX2 3 objectInit, Cond.fieldLink RX2 9 "StepStore$Inside" "widths" "[I", Cond.fieldLink RX2 15 "StepStore$Inside" "numbers" "[J", Cond.fieldLink RX2 19 "StepStore$Inside" "oldPlaces" "[I", Cond.fieldLink RX2 22 "StepStore$Inside" "oldNumbers" "[J", Cond.methodLink RX2 25 yJ7_fill_53178, Cond.static yJ7_fill_53178, Cond.initialized RJ7, Cond.code yJ7_fill_53178 cJ7_fill_53178 4 none, Cond.instanceMethod yX5_init, Cond.code yX5_init cX5_init 1 none, Cond.methodLink RX5 3 objectInit, Cond.fieldLink RX5 9 "StepStore$Rows" "lengths" "[I", Cond.fieldLink RX5 15 "StepStore$Rows" "kinds" "[I", Cond.fieldLink RX5 18 "StepStore$Rows" "ds" "[I", Cond.fieldLink RX5 21 "StepStore$Rows" "xs" "[I", Cond.fieldLink RX5 24 "StepStore$Rows" "ys" "[I", Cond.fieldLink RX5 27 "StepStore$Rows" "reads" "[I", Cond.fieldLink RX5 30 "StepStore$Rows" "writes" "[I", Cond.methodLink RX7 25 yX3_init, Cond.instanceMethod yX3_init, Cond.code yX3_init cX3_init 2 none, Cond.methodLink RX3 3 objectInit]
def wsL_law_r4 : List Cond := [Cond.arrayClass .boolean, Cond.fieldLink RX3 9 "StepStore$Packing" "made" "[Z", Cond.fieldLink RX3 15 "StepStore$Packing" "lengths" "[I", Cond.fieldLink RX3 19 "StepStore$Packing" "wordOf" "[I", Cond.fieldLink RX3 22 "StepStore$Packing" "actsOf" "[I", Cond.fieldLink RX3 25 "StepStore$Packing" "buses" "I", Cond.fieldLink RX3 29 "StepStore$Packing" "rows" "LStepStore$Rows;", Cond.classLink RX3 33 RX6, Cond.instantiable RX6 10, Cond.initialized RX6, Cond.fieldLink RX3 38 "StepStore$Packing" "search" "LStepStore$Search;", Cond.methodLink RX3 35 yX6_init, Cond.instanceMethod yX6_init, Cond.code yX6_init cX6_init 2 none, Cond.methodLink RX6 3 objectInit, Cond.fieldLink RX6 9 "StepStore$Search" "chosen" "[I", Cond.fieldLink RX6 15 "StepStore$Search" "earlier" "[I", Cond.fieldLink RX6 18 "StepStore$Search" "notAfter" "[I", Cond.fieldLink RX6 21 "StepStore$Search" "wordsBehind" "[I", Cond.fieldLink RX6 24 "StepStore$Search" "ofPart" "[I", Cond.fieldLink RX6 27 "StepStore$Search" "rooms" "[I", Cond.arrayClass .byte, Cond.fieldLink RX6 30 "StepStore$Search" "tooFew" "[B", Cond.fieldLink RX6 34 "StepStore$Search" "rows" "LStepStore$Rows;"]
def wsL_law_r5 : List Cond := [Cond.methodLink RX7 34 yX4_init, Cond.instanceMethod yX4_init, Cond.code yX4_init cX4_init 3 none, Cond.methodLink RX4 3 objectInit, Cond.fieldLink RX4 9 "StepStore$Places" "owners" "[I", Cond.fieldLink RX4 15 "StepStore$Places" "acts" "[I", Cond.fieldLink RX4 18 "StepStore$Places" "nexts" "[I", Cond.fieldLink RX4 21 "StepStore$Places" "users" "[I", Cond.fieldLink RX4 24 "StepStore$Places" "placeOf" "[I", Cond.fieldLink RX4 27 "StepStore$Places" "rows" "LStepStore$Rows;", Cond.fieldLink RX4 31 "StepStore$Places" "packing" "LStepStore$Packing;", Cond.methodLink RX7 43 yX1_init, Cond.instanceMethod yX1_init, Cond.code yX1_init cX1_init 3 none, Cond.methodLink RX1 3 objectInit, Cond.fieldLink RX1 9 "StepStore$Fields" "groupOf" "[I", Cond.fieldLink RX1 15 "StepStore$Fields" "seenSlots" "[I", Cond.fieldLink RX1 18 "StepStore$Fields" "seenFields" "[I", Cond.fieldLink RX1 21 "StepStore$Fields" "different" "[I", Cond.fieldLink RX1 24 "StepStore$Fields" "meets" "[I", Cond.fieldLink RX1 27 "StepStore$Fields" "fieldsOfGroup" "[I", Cond.fieldLink RX1 30 "StepStore$Fields" "actsOfGroup" "[I", Cond.fieldLink RX1 33 "StepStore$Fields" "rows" "LStepStore$Rows;", Cond.fieldLink RX1 37 "StepStore$Fields" "places" "LStepStore$Places;"]
def wsL_law_r6 : List Cond := [Cond.methodLink RX7 52 yX0_init, Cond.instanceMethod yX0_init, Cond.code yX0_init cX0_init 4 none, Cond.methodLink RX0 3 objectInit, Cond.fieldLink RX0 9 "StepStore$Doer" "trapped" "I", Cond.fieldLink RX0 15 "StepStore$Doer" "waitingPlaces" "[I", Cond.fieldLink RX0 19 "StepStore$Doer" "waitingNumbers" "[J", Cond.fieldLink RX0 23 "StepStore$Doer" "otherEnd" "[J", Cond.fieldLink RX0 26 "StepStore$Doer" "inside" "LStepStore$Inside;", Cond.fieldLink RX0 30 "StepStore$Doer" "rows" "LStepStore$Rows;", Cond.fieldLink RX0 34 "StepStore$Doer" "packing" "LStepStore$Packing;", Cond.methodLink RX7 77 yJ7_fill_53178, Cond.methodLink RL 12 yX8_init, Cond.instanceMethod yX8_init, Cond.code yX8_init cX8_init 2 none, Cond.methodLink RX8 1 objectInit, Cond.fieldLink RX8 7 "StepStoreModel" "now" "[J", Cond.fieldLink RX8 13 "StepStoreModel" "kept" "[J", Cond.fieldLink RX8 16 "StepStoreModel" "ahead" "[J", Cond.fieldLink RX8 19 "StepStoreModel" "before" "[J", Cond.fieldLink RX8 22 "StepStoreModel" "ended" "[J", Cond.fieldLink RX8 25 "StepStoreModel" "widths" "[I", Cond.fieldLink RX8 29 "StepStoreModel" "kind" "[I", Cond.fieldLink RX8 32 "StepStoreModel" "dOf" "[I"]
def wsL_law_r7 : List Cond := [Cond.fieldLink RX8 35 "StepStoreModel" "xOf" "[I", Cond.fieldLink RX8 38 "StepStoreModel" "yOf" "[I", Cond.fieldLink RX8 41 "StepStoreModel" "acts" "[I", Cond.fieldLink RX8 44 "StepStoreModel" "buses" "I", Cond.fieldLink RX8 48 "StepStoreModel" "refused" "[I", Cond.fieldLink RX8 51 "StepStoreModel" "fewest" "[I", Cond.fieldLink RX8 54 "StepStoreModel" "word" "[I", Cond.fieldLink RX8 57 "StepStoreModel" "wordCount" "[I", Cond.fieldLink RX8 60 "StepStoreModel" "later" "[I", Cond.fieldLink RX8 63 "StepStoreModel" "notBefore" "[I", Cond.fieldLink RX8 66 "StepStoreModel" "isPacked" "[Z", Cond.fieldLink RX8 70 "StepStoreModel" "placeRow" "[I", Cond.fieldLink RX8 73 "StepStoreModel" "placeWord" "[I", Cond.fieldLink RX8 76 "StepStoreModel" "goesOn" "[I", Cond.fieldLink RX8 79 "StepStoreModel" "sharers" "[I", Cond.fieldLink RX8 82 "StepStoreModel" "placeOf" "[I", Cond.fieldLink RX8 85 "StepStoreModel" "fieldAct" "[I", Cond.fieldLink RX8 88 "StepStoreModel" "different" "[I", Cond.fieldLink RX8 91 "StepStoreModel" "meets" "[I", Cond.fieldLink RX8 94 "StepStoreModel" "groupOf" "[I", Cond.fieldLink RX8 97 "StepStoreModel" "groupActs" "[I", Cond.fieldLink RX8 100 "StepStoreModel" "trapped" "I", Cond.fieldLink RX8 103 "StepStoreModel" "first" "[J", Cond.fieldLink RX8 106 "StepStoreModel" "codes" "[I"]
def wsL_law_r8 : List Cond := [Cond.fieldLink RX8 109 "StepStoreModel" "row" "[I", Cond.fieldLink RX8 112 "StepStoreModel" "moved" "[I", Cond.fieldLink RX8 115 "StepStoreModel" "rowSize" "I", Cond.methodLink RL 13 yX7_width, Cond.instanceMethod yX7_width, Cond.selects RX7 yX7_width yX7_width, Cond.code yX7_width cX7_width 4 (some .int), Cond.fieldLink RX7 95 "StepStore$Inside" "widths" "[I", Cond.fieldLink RX7 98 "StepStore$Inside" "numbers" "[J", Cond.methodLink RX7 87 yX7_isRegister, Cond.static yX7_isRegister, Cond.code yX7_isRegister cX7_isRegister 1 (some .boolean), Cond.methodLink RX7 91 yX7_refuse, Cond.instanceMethod yX7_refuse, Cond.selects RX7 yX7_refuse yX7_refuse, Cond.code yX7_refuse cX7_refuse 2 (some .int), Cond.methodLink RX7 101 yX2_put, Cond.instanceMethod yX2_put, Cond.selects RX2 yX2_put yX2_put, Cond.code yX2_put cX2_put 6 (some .int), Cond.methodLink RX2 31 yX2_cutFor, Cond.instanceMethod yX2_cutFor, Cond.selects RX2 yX2_cutFor yX2_cutFor, Cond.code yX2_cutFor cX2_cutFor 5 (some .long)]
def wsL_law_r9 : List Cond := [Cond.methodLink RL 17 yX8_width, Cond.instanceMethod yX8_width, Cond.selects RX8 yX8_width yX8_width, Cond.code yX8_width cX8_width 4 (some .int), Cond.constantLong RX8 126 (32), Cond.methodLink RX8 118 yX8_isRegister, Cond.static yX8_isRegister, Cond.code yX8_isRegister cX8_isRegister 1 (some .boolean), Cond.methodLink RX8 122 yX8_no, Cond.instanceMethod yX8_no, Cond.selects RX8 yX8_no yX8_no, Cond.code yX8_no cX8_no 2 (some .int), Cond.methodLink RX8 128 yX8_isIn, Cond.static yX8_isIn, Cond.code yX8_isIn cX8_isIn 6 (some .boolean), Cond.methodLink RX8 132 yX8_cut, Cond.instanceMethod yX8_cut, Cond.selects RX8 yX8_cut yX8_cut, Cond.code yX8_cut cX8_cut 4 (some .long), Cond.methodLink RL 20 yX7_set, Cond.instanceMethod yX7_set, Cond.selects RX7 yX7_set yX7_set, Cond.code yX7_set cX7_set 4 (some .int), Cond.methodLink RL 24 yX8_set]
def wsL_law_r10 : List Cond := [Cond.instanceMethod yX8_set, Cond.selects RX8 yX8_set yX8_set, Cond.code yX8_set cX8_set 6 (some .int), Cond.methodLink RL 25 yX7_register, Cond.instanceMethod yX7_register, Cond.selects RX7 yX7_register yX7_register, Cond.code yX7_register cX7_register 2 (some .long), Cond.methodLink RL 29 yX8_register, Cond.instanceMethod yX8_register, Cond.selects RX8 yX8_register yX8_register, Cond.code yX8_register cX8_register 3 (some .long), Cond.methodLink RL 30 yX7_poke, Cond.instanceMethod yX7_poke, Cond.selects RX7 yX7_poke yX7_poke, Cond.code yX7_poke cX7_poke 4 (some .int), Cond.methodLink RX7 105 yX7_isCell, Cond.static yX7_isCell, Cond.code yX7_isCell cX7_isCell 2 (some .boolean), Cond.constantLong RX7 257 (64), Cond.methodLink RL 33 yX8_poke, Cond.instanceMethod yX8_poke, Cond.selects RX8 yX8_poke yX8_poke, Cond.code yX8_poke cX8_poke 6 (some .int), Cond.constantLong RX8 139 (4294967295)]
def wsL_law_r11 : List Cond := [Cond.methodLink RX8 136 yX8_isCell, Cond.static yX8_isCell, Cond.code yX8_isCell cX8_isCell 1 (some .boolean), Cond.methodLink RL 34 yX7_cell, Cond.instanceMethod yX7_cell, Cond.selects RX7 yX7_cell yX7_cell, Cond.code yX7_cell cX7_cell 2 (some .long), Cond.methodLink RL 37 yX8_cell, Cond.instanceMethod yX8_cell, Cond.selects RX8 yX8_cell yX8_cell, Cond.code yX8_cell cX8_cell 3 (some .long), Cond.methodLink RL 38 yX7_flag, Cond.instanceMethod yX7_flag, Cond.selects RX7 yX7_flag yX7_flag, Cond.code yX7_flag cX7_flag 4 (some .int), Cond.methodLink RL 42 yX8_flag, Cond.instanceMethod yX8_flag, Cond.selects RX8 yX8_flag yX8_flag, Cond.code yX8_flag cX8_flag 4 (some .int), Cond.methodLink RL 43 yX7_flags, Cond.instanceMethod yX7_flags, Cond.selects RX7 yX7_flags yX7_flags, Cond.code yX7_flags cX7_flags 1 (some .int), Cond.constantLong RX7 109 (2)]
def wsL_law_r12 : List Cond := [Cond.methodLink RL 47 yX8_flags, Cond.instanceMethod yX8_flags, Cond.selects RX8 yX8_flags yX8_flags, Cond.code yX8_flags cX8_flags 1 (some .int), Cond.constantLong RX8 141 (2), Cond.methodLink RL 48 yX7_act, Cond.instanceMethod yX7_act, Cond.selects RX7 yX7_act yX7_act, Cond.code yX7_act cX7_act 6 (some .int), Cond.fieldLink RX7 118 "StepStore$Rows" "lengths" "[I", Cond.methodLink RX7 111 yX7_isInstruction, Cond.static yX7_isInstruction, Cond.code yX7_isInstruction cX7_isInstruction 1 (some .boolean), Cond.methodLink RX7 114 yX7_isAct, Cond.static yX7_isAct, Cond.code yX7_isAct cX7_isAct 4 (some .boolean), Cond.fieldLink RX7 261 "StepStore" "SORT_OF_D" "[I", Cond.fieldLink RX7 267 "StepStore" "SORT_OF_X" "[I", Cond.fieldLink RX7 270 "StepStore" "SORT_OF_Y" "[I", Cond.methodLink RX7 264 yX7_isOfSort, Cond.static yX7_isOfSort, Cond.code yX7_isOfSort cX7_isOfSort 2 (some .boolean), Cond.fieldLink RX7 273 "StepStore" "LEAST_OF_SORT" "[I", Cond.fieldLink RX7 276 "StepStore" "MOST_OF_SORT" "[I"]
def wsL_law_r13 : List Cond := [Cond.methodLink RX7 121 yX5_add, Cond.instanceMethod yX5_add, Cond.selects RX5 yX5_add yX5_add, Cond.code yX5_add cX5_add 7 none, Cond.static yX7_slot, Cond.code yX7_slot cX7_slot 2 (some .int), Cond.methodLink RX5 43 yX5_readsOf, Cond.static yX5_readsOf, Cond.code yX5_readsOf cX5_readsOf 4 (some .int), Cond.methodLink RX5 47 yX5_writesOf, Cond.static yX5_writesOf, Cond.code yX5_writesOf cX5_writesOf 3 (some .int), Cond.methodLink RX7 125 yX7_takeAwayPackedOf, Cond.instanceMethod yX7_takeAwayPackedOf, Cond.selects RX7 yX7_takeAwayPackedOf yX7_takeAwayPackedOf, Cond.code yX7_takeAwayPackedOf cX7_takeAwayPackedOf 2 none, Cond.fieldLink RX7 172 "StepStore$Packing" "made" "[Z", Cond.fieldLink RX7 161 "StepStore$Places" "made" "Z", Cond.methodLink RL 52 yX8_act, Cond.instanceMethod yX8_act, Cond.selects RX8 yX8_act yX8_act, Cond.code yX8_act cX8_act 7 (some .int), Cond.fieldLink RX8 164 "StepStoreModel" "isStored" "Z", Cond.methodLink RX8 157 yX8_isInstruction]
def wsL_law_r14 : List Cond := [Cond.static yX8_isInstruction, Cond.code yX8_isInstruction cX8_isInstruction 1 (some .boolean), Cond.methodLink RX8 160 yX8_isActs, Cond.static yX8_isActs, Cond.code yX8_isActs cX8_isActs 5 (some .boolean), Cond.constantLong RX8 143 (10), Cond.constantLong RX8 148 (255), Cond.constantLong RX8 153 (-31), Cond.constantLong RX8 155 (31), Cond.methodLink RX8 145 yX8_hasD, Cond.static yX8_hasD, Cond.code yX8_hasD cX8_hasD 1 (some .boolean), Cond.methodLink RX8 150 yX8_hasY, Cond.static yX8_hasY, Cond.code yX8_hasY cX8_hasY 1 (some .boolean), Cond.methodLink RL 53 yX7_clear, Cond.instanceMethod yX7_clear, Cond.selects RX7 yX7_clear yX7_clear, Cond.code yX7_clear cX7_clear 3 (some .int), Cond.methodLink RL 57 yX8_clear, Cond.instanceMethod yX8_clear, Cond.selects RX8 yX8_clear yX8_clear, Cond.code yX8_clear cX8_clear 3 (some .int), Cond.methodLink RL 58 yX7_look]
def wsL_law_r15 : List Cond := [Cond.instanceMethod yX7_look, Cond.selects RX7 yX7_look yX7_look, Cond.code yX7_look cX7_look 5 (some .int), Cond.fieldLink RX7 137 "StepStore$Rows" "kinds" "[I", Cond.fieldLink RX7 140 "StepStore$Rows" "ds" "[I", Cond.fieldLink RX7 143 "StepStore$Rows" "xs" "[I", Cond.fieldLink RX7 146 "StepStore$Rows" "ys" "[I", Cond.methodLink RX7 129 yX7_hasAct, Cond.instanceMethod yX7_hasAct, Cond.selects RX7 yX7_hasAct yX7_hasAct, Cond.code yX7_hasAct cX7_hasAct 3 (some .boolean), Cond.methodLink RX7 133 yX7_slot, Cond.methodLink RX7 149 yX5_partOf, Cond.instanceMethod yX5_partOf, Cond.selects RX5 yX5_partOf yX5_partOf, Cond.code yX5_partOf cX5_partOf 2 (some .int), Cond.methodLink RX7 152 yX5_canTrap, Cond.instanceMethod yX5_canTrap, Cond.selects RX5 yX5_canTrap yX5_canTrap, Cond.code yX5_canTrap cX5_canTrap 3 (some .boolean), Cond.methodLink RL 62 yX8_look, Cond.instanceMethod yX8_look, Cond.selects RX8 yX8_look yX8_look, Cond.code yX8_look cX8_look 5 (some .int)]
def wsL_law_r16 : List Cond := [Cond.methodLink RX8 168 yX8_isAct, Cond.instanceMethod yX8_isAct, Cond.selects RX8 yX8_isAct yX8_isAct, Cond.code yX8_isAct cX8_isAct 3 (some .boolean), Cond.methodLink RX8 172 yX8_partOf, Cond.static yX8_partOf, Cond.code yX8_partOf cX8_partOf 1 (some .int), Cond.methodLink RX8 175 yX8_canTrap, Cond.static yX8_canTrap, Cond.code yX8_canTrap cX8_canTrap 1 (some .boolean), Cond.methodLink RL 63 yX7_buses, Cond.instanceMethod yX7_buses, Cond.selects RX7 yX7_buses yX7_buses, Cond.code yX7_buses cX7_buses 3 (some .int), Cond.fieldLink RX7 155 "StepStore$Packing" "buses" "I", Cond.methodLink RX7 158 yX3_dropAll, Cond.instanceMethod yX3_dropAll, Cond.selects RX3 yX3_dropAll yX3_dropAll, Cond.code yX3_dropAll cX3_dropAll 2 none, Cond.methodLink RL 66 yX8_buses, Cond.instanceMethod yX8_buses, Cond.selects RX8 yX8_buses yX8_buses, Cond.code yX8_buses cX8_buses 4 (some .int), Cond.constantLong RX8 178 (3)]
def wsL_law_r17 : List Cond := [Cond.methodLink RL 67 yX7_needs, Cond.instanceMethod yX7_needs, Cond.selects RX7 yX7_needs yX7_needs, Cond.code yX7_needs cX7_needs 4 (some .int), Cond.methodLink RX7 165 yX5_need, Cond.instanceMethod yX5_need, Cond.selects RX5 yX5_need yX5_need, Cond.code yX5_need cX5_need 3 (some .int), Cond.methodLink RX5 56 yX5_canTrap, Cond.methodLink RL 70 yX8_needs, Cond.instanceMethod yX8_needs, Cond.selects RX8 yX8_needs yX8_needs, Cond.code yX8_needs cX8_needs 4 (some .int), Cond.methodLink RX8 186 yX8_needed, Cond.instanceMethod yX8_needed, Cond.selects RX8 yX8_needed yX8_needed, Cond.code yX8_needed cX8_needed 3 (some .int), Cond.methodLink RX8 180 yX8_writes, Cond.instanceMethod yX8_writes, Cond.selects RX8 yX8_writes yX8_writes, Cond.code yX8_writes cX8_writes 3 (some .int), Cond.methodLink RX8 183 yX8_reads, Cond.instanceMethod yX8_reads, Cond.selects RX8 yX8_reads yX8_reads]
def wsL_law_r18 : List Cond := [Cond.code yX8_reads cX8_reads 3 (some .int), Cond.methodLink RL 71 yX7_pack, Cond.instanceMethod yX7_pack, Cond.selects RX7 yX7_pack yX7_pack, Cond.code yX7_pack cX7_pack 2 (some .int), Cond.fieldLink RX7 171 "StepStore$Packing" "lengths" "[I", Cond.methodLink RX7 168 yX3_make, Cond.instanceMethod yX3_make, Cond.selects RX3 yX3_make yX3_make, Cond.code yX3_make cX3_make 6 none, Cond.fieldLink RX3 46 "StepStore$Search" "chosen" "[I", Cond.methodLink RX3 42 yX6_solve, Cond.instanceMethod yX6_solve, Cond.selects RX6 yX6_solve yX6_solve, Cond.code yX6_solve cX6_solve 4 (some .int), Cond.fieldLink RX6 38 "StepStore$Rows" "lengths" "[I", Cond.fieldLink RX6 43 "StepStore$Search" "length" "I", Cond.fieldLink RX6 55 "StepStore$Search" "words" "I", Cond.methodLink RX6 47 yX6_learnParts, Cond.instanceMethod yX6_learnParts, Cond.selects RX6 yX6_learnParts yX6_learnParts, Cond.code yX6_learnParts cX6_learnParts 4 none, Cond.methodLink RX6 62 yJ7_fill_53178, Cond.methodLink RX6 71 yX5_partOf]
def wsL_law_r19 : List Cond := [Cond.methodLink RX6 51 yX6_learnNeeds, Cond.instanceMethod yX6_learnNeeds, Cond.selects RX6 yX6_learnNeeds yX6_learnNeeds, Cond.code yX6_learnNeeds cX6_learnNeeds 5 none, Cond.methodLink RX6 78 Lib.Math.max.name, Cond.static Lib.Math.max.name, Cond.initialized "java/lang/Math", Cond.code Lib.Math.max.name Lib.Math.max.code 2 (some .int), Cond.methodLink RX6 75 yX5_need, Cond.methodLink RX6 58 yX6_fill, Cond.static yX6_fill, Cond.code yX6_fill cX6_fill 11 (some .boolean), Cond.methodLink RX6 83 yX6_areTooMany, Cond.instanceMethod yX6_areTooMany, Cond.selects RX6 yX6_areTooMany yX6_areTooMany, Cond.code yX6_areTooMany cX6_areTooMany 4 (some .boolean), Cond.methodLink RX6 97 yJ6_bitCount_0f7a4, Cond.static yJ6_bitCount_0f7a4, Cond.initialized RJ6, Cond.code yJ6_bitCount_0f7a4 cJ6_bitCount_0f7a4 1 (some .int), Cond.constant RJ6 265 (1431655765), Cond.constant RJ6 266 (858993459), Cond.constant RJ6 267 (252645135), Cond.static yX7_isIn]
def wsL_law_r20 : List Cond := [Cond.code yX7_isIn cX7_isIn 2 (some .boolean), Cond.methodLink RX6 87 yX6_readyAfter, Cond.instanceMethod yX6_readyAfter, Cond.selects RX6 yX6_readyAfter yX6_readyAfter, Cond.code yX6_readyAfter cX6_readyAfter 5 (some .int), Cond.methodLink RX6 90 yX6_urgentOf, Cond.instanceMethod yX6_urgentOf, Cond.selects RX6 yX6_urgentOf yX6_urgentOf, Cond.code yX6_urgentOf cX6_urgentOf 5 (some .int), Cond.methodLink RX6 93 yX6_canMeet, Cond.instanceMethod yX6_canMeet, Cond.selects RX6 yX6_canMeet yX6_canMeet, Cond.code yX6_canMeet cX6_canMeet 5 (some .boolean), Cond.methodLink RL 74 yX8_pack, Cond.instanceMethod yX8_pack, Cond.selects RX8 yX8_pack yX8_pack, Cond.code yX8_pack cX8_pack 2 (some .int), Cond.methodLink RX8 194 yX8_packs, Cond.instanceMethod yX8_packs, Cond.selects RX8 yX8_packs yX8_packs, Cond.code yX8_packs cX8_packs 8 none, Cond.methodLink RX8 190 yX8_isWord, Cond.instanceMethod yX8_isWord, Cond.selects RX8 yX8_isWord yX8_isWord]
def wsL_law_r21 : List Cond := [Cond.code yX8_isWord cX8_isWord 8 (some .boolean), Cond.methodLink RL 75 yX7_word, Cond.instanceMethod yX7_word, Cond.selects RX7 yX7_word yX7_word, Cond.code yX7_word cX7_word 3 (some .int), Cond.fieldLink RX7 175 "StepStore$Packing" "wordOf" "[I", Cond.methodLink RL 78 yX8_word, Cond.instanceMethod yX8_word, Cond.selects RX8 yX8_word yX8_word, Cond.code yX8_word cX8_word 3 (some .int), Cond.methodLink RL 79 yX7_why, Cond.instanceMethod yX7_why, Cond.selects RX7 yX7_why yX7_why, Cond.code yX7_why cX7_why 3 (some .int), Cond.methodLink RX7 178 yX3_holderOf, Cond.instanceMethod yX3_holderOf, Cond.selects RX3 yX3_holderOf yX3_holderOf, Cond.code yX3_holderOf cX3_holderOf 8 (some .int), Cond.methodLink RX3 56 yX5_need, Cond.methodLink RL 82 yX8_why, Cond.instanceMethod yX8_why, Cond.selects RX8 yX8_why yX8_why, Cond.code yX8_why cX8_why 6 (some .int), Cond.methodLink RL 83 yX7_store]
def wsL_law_r22 : List Cond := [Cond.instanceMethod yX7_store, Cond.selects RX7 yX7_store yX7_store, Cond.code yX7_store cX7_store 2 (some .int), Cond.fieldLink RX7 184 "StepStore$Places" "length" "I", Cond.methodLink RX7 181 yX4_make, Cond.instanceMethod yX4_make, Cond.selects RX4 yX4_make yX4_make, Cond.code yX4_make cX4_make 5 none, Cond.fieldLink RX4 35 "StepStore$Places" "length" "I", Cond.fieldLink RX4 39 "StepStore$Packing" "lengths" "[I", Cond.fieldLink RX4 48 "StepStore$Packing" "actsOf" "[I", Cond.fieldLink RX4 55 "StepStore$Places" "made" "Z", Cond.methodLink RX4 51 yX4_findOrAdd, Cond.instanceMethod yX4_findOrAdd, Cond.selects RX4 yX4_findOrAdd yX4_findOrAdd, Cond.code yX4_findOrAdd cX4_findOrAdd 5 (some .int), Cond.methodLink RX4 59 yX4_hasSameActs, Cond.instanceMethod yX4_hasSameActs, Cond.selects RX4 yX4_hasSameActs yX4_hasSameActs, Cond.code yX4_hasSameActs cX4_hasSameActs 7 (some .boolean), Cond.methodLink RX4 63 yJ6_bitCount_0f7a4, Cond.methodLink RX4 73 yX4_firstIn, Cond.static yX4_firstIn, Cond.code yX4_firstIn cX4_firstIn 3 (some .int)]
def wsL_law_r23 : List Cond := [Cond.methodLink RX4 76 yX5_same, Cond.instanceMethod yX5_same, Cond.selects RX5 yX5_same yX5_same, Cond.code yX5_same cX5_same 3 (some .boolean), Cond.methodLink RX7 183 yX1_make, Cond.instanceMethod yX1_make, Cond.selects RX1 yX1_make yX1_make, Cond.code yX1_make cX1_make 2 none, Cond.fieldLink RX1 41 "StepStore$Fields" "seen" "I", Cond.fieldLink RX1 51 "StepStore$Places" "length" "I", Cond.fieldLink RX1 56 "StepStore$Places" "owners" "[I", Cond.fieldLink RX1 59 "StepStore$Places" "acts" "[I", Cond.fieldLink RX1 77 "StepStore$Fields" "wordBits" "I", Cond.fieldLink RX1 80 "StepStore$Fields" "groups" "I", Cond.methodLink RX1 45 yJ7_fill_53178, Cond.methodLink RX1 62 yX1_learnActs, Cond.instanceMethod yX1_learnActs, Cond.selects RX1 yX1_learnActs yX1_learnActs, Cond.code yX1_learnActs cX1_learnActs 9 (some .int), Cond.methodLink RX1 90 yX5_partOf, Cond.methodLink RX1 95 yX1_addIfNew, Cond.instanceMethod yX1_addIfNew, Cond.selects RX1 yX1_addIfNew yX1_addIfNew, Cond.code yX1_addIfNew cX1_addIfNew 4 none]
def wsL_law_r24 : List Cond := [Cond.methodLink RX1 99 yX5_same, Cond.methodLink RX1 66 yX1_learnMeetings, Cond.instanceMethod yX1_learnMeetings, Cond.selects RX1 yX1_learnMeetings yX1_learnMeetings, Cond.code yX1_learnMeetings cX1_learnMeetings 3 none, Cond.methodLink RX1 70 yX1_makeGroups, Cond.instanceMethod yX1_makeGroups, Cond.selects RX1 yX1_makeGroups yX1_makeGroups, Cond.code yX1_makeGroups cX1_makeGroups 3 none, Cond.methodLink RX1 105 Lib.Math.max.name, Cond.methodLink RX1 102 yX1_firstGroupFor, Cond.instanceMethod yX1_firstGroupFor, Cond.selects RX1 yX1_firstGroupFor yX1_firstGroupFor, Cond.code yX1_firstGroupFor cX1_firstGroupFor 3 (some .int), Cond.methodLink RX1 73 yX1_bitsToTell, Cond.static yX1_bitsToTell, Cond.code yX1_bitsToTell cX1_bitsToTell 3 (some .int), Cond.methodLink RL 86 yX8_store, Cond.instanceMethod yX8_store, Cond.selects RX8 yX8_store yX8_store, Cond.code yX8_store cX8_store 4 (some .int), Cond.fieldLink RX8 205 "StepStoreModel" "places" "I", Cond.methodLink RX8 211 yX8_lays, Cond.instanceMethod yX8_lays]
def wsL_law_r25 : List Cond := [Cond.selects RX8 yX8_lays yX8_lays, Cond.code yX8_lays cX8_lays 5 (some .int), Cond.methodLink RX8 208 yX8_isLike, Cond.instanceMethod yX8_isLike, Cond.selects RX8 yX8_isLike yX8_isLike, Cond.code yX8_isLike cX8_isLike 7 (some .boolean), Cond.methodLink RX8 198 yX8_actOf, Cond.instanceMethod yX8_actOf, Cond.selects RX8 yX8_actOf yX8_actOf, Cond.code yX8_actOf cX8_actOf 6 (some .int), Cond.methodLink RX8 202 yX8_areSame, Cond.instanceMethod yX8_areSame, Cond.selects RX8 yX8_areSame yX8_areSame, Cond.code yX8_areSame cX8_areSame 3 (some .boolean), Cond.methodLink RX8 214 yX8_findFields, Cond.instanceMethod yX8_findFields, Cond.selects RX8 yX8_findFields yX8_findFields, Cond.code yX8_findFields cX8_findFields 6 none, Cond.methodLink RX8 217 yX8_actsAt, Cond.instanceMethod yX8_actsAt, Cond.selects RX8 yX8_actsAt yX8_actsAt, Cond.code yX8_actsAt cX8_actsAt 3 (some .int), Cond.methodLink RX8 220 yX8_isNew, Cond.instanceMethod yX8_isNew]
def wsL_law_r26 : List Cond := [Cond.selects RX8 yX8_isNew yX8_isNew, Cond.code yX8_isNew cX8_isNew 7 (some .boolean), Cond.methodLink RX8 223 yX8_findGroups, Cond.instanceMethod yX8_findGroups, Cond.selects RX8 yX8_findGroups yX8_findGroups, Cond.code yX8_findGroups cX8_findGroups 3 none, Cond.fieldLink RX8 226 "StepStoreModel" "groups" "I", Cond.methodLink RX8 229 yX8_isMet, Cond.instanceMethod yX8_isMet, Cond.selects RX8 yX8_isMet yX8_isMet, Cond.code yX8_isMet cX8_isMet 5 (some .boolean), Cond.methodLink RL 87 yX7_place, Cond.instanceMethod yX7_place, Cond.selects RX7 yX7_place yX7_place, Cond.code yX7_place cX7_place 3 (some .int), Cond.fieldLink RX7 187 "StepStore$Places" "placeOf" "[I", Cond.methodLink RL 90 yX8_place, Cond.instanceMethod yX8_place, Cond.selects RX8 yX8_place yX8_place, Cond.code yX8_place cX8_place 3 (some .int), Cond.methodLink RL 91 yX7_at, Cond.instanceMethod yX7_at, Cond.selects RX7 yX7_at yX7_at, Cond.code yX7_at cX7_at 3 (some .int)]
def wsL_law_r27 : List Cond := [Cond.fieldLink RX7 190 "StepStore$Places" "acts" "[I", Cond.fieldLink RX7 198 "StepStore$Places" "nexts" "[I", Cond.fieldLink RX7 201 "StepStore$Places" "users" "[I", Cond.methodLink RX7 193 yJ6_bitCount_0f7a4, Cond.methodLink RL 94 yX8_at, Cond.instanceMethod yX8_at, Cond.selects RX8 yX8_at yX8_at, Cond.code yX8_at cX8_at 3 (some .int), Cond.methodLink RL 95 yX7_group, Cond.instanceMethod yX7_group, Cond.selects RX7 yX7_group yX7_group, Cond.code yX7_group cX7_group 2 (some .int), Cond.fieldLink RX7 204 "StepStore$Fields" "groupOf" "[I", Cond.methodLink RL 98 yX8_group, Cond.instanceMethod yX8_group, Cond.selects RX8 yX8_group yX8_group, Cond.code yX8_group cX8_group 2 (some .int), Cond.constantLong RX8 232 (6), Cond.methodLink RL 99 yX7_narrow, Cond.instanceMethod yX7_narrow, Cond.selects RX7 yX7_narrow yX7_narrow, Cond.code yX7_narrow cX7_narrow 2 (some .int), Cond.fieldLink RX7 207 "StepStore$Fields" "wordBits" "I", Cond.fieldLink RX7 210 "StepStore$Fields" "groups" "I"]
def wsL_law_r28 : List Cond := [Cond.fieldLink RX7 213 "StepStore$Fields" "seen" "I", Cond.methodLink RL 102 yX8_narrow, Cond.instanceMethod yX8_narrow, Cond.selects RX8 yX8_narrow yX8_narrow, Cond.code yX8_narrow cX8_narrow 4 (some .int), Cond.methodLink RX8 234 yX8_bits, Cond.static yX8_bits, Cond.code yX8_bits cX8_bits 2 (some .int), Cond.methodLink RL 103 yX7_run, Cond.instanceMethod yX7_run, Cond.selects RX7 yX7_run yX7_run, Cond.code yX7_run cX7_run 4 (some .int), Cond.methodLink RX7 216 yX0_perform, Cond.instanceMethod yX0_perform, Cond.selects RX0 yX0_perform yX0_perform, Cond.code yX0_perform cX0_perform 7 (some .int), Cond.fieldLink RX0 43 "StepStore$Doer" "actsDone" "I", Cond.fieldLink RX0 46 "StepStore$Doer" "wordsDone" "I", Cond.fieldLink RX0 49 "StepStore$Packing" "lengths" "[I", Cond.fieldLink RX0 54 "StepStore$Rows" "lengths" "[I", Cond.fieldLink RX0 57 "StepStore$Packing" "actsOf" "[I", Cond.methodLink RX0 38 yX2_forgetOlds, Cond.instanceMethod yX2_forgetOlds, Cond.selects RX2 yX2_forgetOlds yX2_forgetOlds]
def wsL_law_r29 : List Cond := [Cond.code yX2_forgetOlds cX2_forgetOlds 1 none, Cond.fieldLink RX2 35 "StepStore$Inside" "olds" "I", Cond.methodLink RX0 64 yX0_doTogether, Cond.instanceMethod yX0_doTogether, Cond.selects RX0 yX0_doTogether yX0_doTogether, Cond.code yX0_doTogether cX0_doTogether 6 (some .int), Cond.fieldLink RX0 93 "StepStore$Doer" "waiting" "I", Cond.methodLink RX0 100 yX0_take, Cond.instanceMethod yX0_take, Cond.selects RX0 yX0_take yX0_take, Cond.code yX0_take cX0_take 5 (some .int), Cond.fieldLink RX0 107 "StepStore$Rows" "ds" "[I", Cond.fieldLink RX0 110 "StepStore$Rows" "xs" "[I", Cond.fieldLink RX0 113 "StepStore$Rows" "ys" "[I", Cond.fieldLink RX0 116 "StepStore$Rows" "kinds" "[I", Cond.fieldLink RX0 77 "StepStore$Inside" "numbers" "[J", Cond.methodLink RX0 119 yX0_putLater, Cond.instanceMethod yX0_putLater, Cond.selects RX0 yX0_putLater yX0_putLater, Cond.code yX0_putLater cX0_putLater 4 none, Cond.methodLink RX0 122 yX0_fetch, Cond.instanceMethod yX0_fetch, Cond.selects RX0 yX0_fetch yX0_fetch, Cond.code yX0_fetch cX0_fetch 4 (some .int)]
def wsL_law_r30 : List Cond := [Cond.methodLink RX0 126 yX0_keep, Cond.instanceMethod yX0_keep, Cond.selects RX0 yX0_keep yX0_keep, Cond.code yX0_keep cX0_keep 5 (some .int), Cond.methodLink RX0 130 yX0_work, Cond.instanceMethod yX0_work, Cond.selects RX0 yX0_work yX0_work, Cond.code yX0_work cX0_work 10 none, Cond.methodLink RX0 138 yX2_cutFor, Cond.methodLink RX0 86 yX2_goBack, Cond.instanceMethod yX2_goBack, Cond.selects RX2 yX2_goBack yX2_goBack, Cond.code yX2_goBack cX2_goBack 2 none, Cond.methodLink RX0 103 yX2_putAndRemember, Cond.instanceMethod yX2_putAndRemember, Cond.selects RX2 yX2_putAndRemember yX2_putAndRemember, Cond.code yX2_putAndRemember cX2_putAndRemember 4 none, Cond.methodLink RX2 39 yX2_put, Cond.methodLink RX0 67 yJ6_bitCount_0f7a4, Cond.methodLink RX7 220 yX7_keepTold, Cond.instanceMethod yX7_keepTold, Cond.selects RX7 yX7_keepTold yX7_keepTold, Cond.code yX7_keepTold cX7_keepTold 1 none, Cond.fieldLink RX7 248 "StepStore$Doer" "actsDone" "I"]
def wsL_law_r31 : List Cond := [Cond.fieldLink RX7 251 "StepStore$Doer" "wordsDone" "I", Cond.fieldLink RX7 254 "StepStore$Doer" "trapped" "I", Cond.methodLink RL 106 yX8_run, Cond.instanceMethod yX8_run, Cond.selects RX8 yX8_run yX8_run, Cond.code yX8_run cX8_run 3 (some .int), Cond.methodLink RX8 262 yX8_byWords, Cond.instanceMethod yX8_byWords, Cond.selects RX8 yX8_byWords yX8_byWords, Cond.code yX8_byWords cX8_byWords 6 (some .int), Cond.fieldLink RX8 250 "StepStoreModel" "didActs" "I", Cond.fieldLink RX8 253 "StepStoreModel" "didWords" "I", Cond.methodLink RX8 246 yX8_copies, Cond.static yX8_copies, Cond.code yX8_copies cX8_copies 3 none, Cond.methodLink RX8 256 yX8_holds, Cond.instanceMethod yX8_holds, Cond.selects RX8 yX8_holds yX8_holds, Cond.code yX8_holds cX8_holds 2 (some .boolean), Cond.constantLong RX8 237 (63), Cond.methodLink RX8 259 yX8_does, Cond.instanceMethod yX8_does, Cond.selects RX8 yX8_does yX8_does, Cond.code yX8_does cX8_does 2 none]
def wsL_law_r32 : List Cond := [Cond.methodLink RX8 239 yX8_puts, Cond.instanceMethod yX8_puts, Cond.selects RX8 yX8_puts yX8_puts, Cond.code yX8_puts cX8_puts 4 none, Cond.methodLink RX8 243 yX8_worker, Cond.instanceMethod yX8_worker, Cond.selects RX8 yX8_worker yX8_worker, Cond.code yX8_worker cX8_worker 9 none, Cond.methodLink RX8 265 yX8_plainly, Cond.instanceMethod yX8_plainly, Cond.selects RX8 yX8_plainly yX8_plainly, Cond.code yX8_plainly cX8_plainly 4 (some .int), Cond.methodLink RL 107 yX7_told, Cond.instanceMethod yX7_told, Cond.selects RX7 yX7_told yX7_told, Cond.code yX7_told cX7_told 2 (some .int), Cond.methodLink RL 110 yX8_told, Cond.instanceMethod yX8_told, Cond.selects RX8 yX8_told yX8_told, Cond.code yX8_told cX8_told 2 (some .int), Cond.methodLink RL 111 yX7_beside, Cond.instanceMethod yX7_beside, Cond.selects RX7 yX7_beside yX7_beside, Cond.code yX7_beside cX7_beside 4 (some .int)]
def wsL_law_r33 : List Cond := [Cond.methodLink RX7 223 yX0_endsAlike, Cond.instanceMethod yX0_endsAlike, Cond.selects RX0 yX0_endsAlike yX0_endsAlike, Cond.code yX0_endsAlike cX0_endsAlike 4 (some .boolean), Cond.methodLink RX0 80 arraycopyName, Cond.native arraycopyName, Cond.static arraycopyName, Cond.initialized "java/lang/System", Cond.methodLink RX0 73 yX0_perform, Cond.methodLink RX0 89 yX0_isOtherEnd, Cond.instanceMethod yX0_isOtherEnd, Cond.selects RX0 yX0_isOtherEnd yX0_isOtherEnd, Cond.code yX0_isOtherEnd cX0_isOtherEnd 2 (some .boolean), Cond.methodLink RL 114 yX8_beside, Cond.instanceMethod yX8_beside, Cond.selects RX8 yX8_beside yX8_beside, Cond.code yX8_beside cX8_beside 8 (some .int), Cond.methodLink RL 115 yX7_code, Cond.instanceMethod yX7_code, Cond.selects RX7 yX7_code yX7_code, Cond.code yX7_code cX7_code 4 (some .int), Cond.methodLink RL 118 yX8_code, Cond.instanceMethod yX8_code, Cond.selects RX8 yX8_code yX8_code]
def wsL_law_r34 : List Cond := [Cond.code yX8_code cX8_code 4 (some .int), Cond.constantLong RX8 268 (15), Cond.methodLink RL 119 yX7_step, Cond.instanceMethod yX7_step, Cond.selects RX7 yX7_step yX7_step, Cond.code yX7_step cX7_step 4 (some .int), Cond.fieldLink RX7 226 "StepStore" "ended" "I", Cond.fieldLink RX7 233 "StepStore" "steps" "I", Cond.methodLink RX7 229 yX7_doStep, Cond.instanceMethod yX7_doStep, Cond.selects RX7 yX7_doStep yX7_doStep, Cond.code yX7_doStep cX7_doStep 4 (some .int), Cond.constantLong RX7 259 (16), Cond.fieldLink RX7 236 "StepStore" "traps" "I", Cond.methodLink RL 122 yX8_step, Cond.instanceMethod yX8_step, Cond.selects RX8 yX8_step yX8_step, Cond.code yX8_step cX8_step 6 (some .int), Cond.constantLong RX8 270 (1000), Cond.fieldLink RX8 272 "StepStoreModel" "howEnded" "I", Cond.constantLong RX8 275 (16), Cond.fieldLink RX8 277 "StepStoreModel" "traps" "I", Cond.fieldLink RX8 280 "StepStoreModel" "stepped" "I", Cond.methodLink RL 123 yX7_count]
def wsL_law_r35 : List Cond := [Cond.instanceMethod yX7_count, Cond.selects RX7 yX7_count yX7_count, Cond.code yX7_count cX7_count 2 (some .int), Cond.methodLink RL 126 yX8_count, Cond.instanceMethod yX8_count, Cond.selects RX8 yX8_count yX8_count, Cond.code yX8_count cX8_count 2 (some .int), Cond.methodLink RL 127 yX7_image, Cond.instanceMethod yX7_image, Cond.selects RX7 yX7_image yX7_image, Cond.code yX7_image cX7_image 3 (some .int), Cond.fieldLink RX7 239 "StepStore" "hasImage" "Z", Cond.methodLink RL 130 yX8_image, Cond.instanceMethod yX8_image, Cond.selects RX8 yX8_image yX8_image, Cond.code yX8_image cX8_image 3 (some .int), Cond.fieldLink RX8 283 "StepStoreModel" "hasImage" "Z", Cond.methodLink RL 131 yX7_restore, Cond.instanceMethod yX7_restore, Cond.selects RX7 yX7_restore yX7_restore, Cond.code yX7_restore cX7_restore 3 (some .int), Cond.methodLink RL 134 yX8_restore, Cond.instanceMethod yX8_restore, Cond.selects RX8 yX8_restore yX8_restore]
def wsL_law_r36 : List Cond := [Cond.code yX8_restore cX8_restore 5 (some .int), Cond.methodLink RL 135 yX7_lay, Cond.instanceMethod yX7_lay, Cond.selects RX7 yX7_lay yX7_lay, Cond.code yX7_lay cX7_lay 4 (some .int), Cond.methodLink RL 138 yX8_lay, Cond.instanceMethod yX8_lay, Cond.selects RX8 yX8_lay yX8_lay, Cond.code yX8_lay cX8_lay 5 (some .int), Cond.constantLong RX8 286 (64), Cond.constantLong RX8 288 (65535), Cond.constant RX8 290 (65536), Cond.methodLink RL 139 yX7_tear, Cond.instanceMethod yX7_tear, Cond.selects RX7 yX7_tear yX7_tear, Cond.code yX7_tear cX7_tear 2 (some .int), Cond.methodLink RL 142 yX8_tear, Cond.instanceMethod yX8_tear, Cond.selects RX8 yX8_tear yX8_tear, Cond.code yX8_tear cX8_tear 2 (some .int), Cond.methodLink RL 143 yX7_row, Cond.instanceMethod yX7_row, Cond.selects RX7 yX7_row yX7_row, Cond.code yX7_row cX7_row 2 (some .int)]
def wsL_law_r37 : List Cond := [Cond.methodLink RL 146 yX8_row, Cond.instanceMethod yX8_row, Cond.selects RX8 yX8_row yX8_row, Cond.code yX8_row cX8_row 2 (some .int), Cond.methodLink RL 147 yX7_copy, Cond.instanceMethod yX7_copy, Cond.selects RX7 yX7_copy yX7_copy, Cond.code yX7_copy cX7_copy 4 (some .int), Cond.methodLink RX7 242 arraycopyName, Cond.methodLink RL 150 yX8_copy, Cond.instanceMethod yX8_copy, Cond.selects RX8 yX8_copy yX8_copy, Cond.code yX8_copy cX8_copy 5 (some .int), Cond.methodLink RL 151 yX7_status, Cond.instanceMethod yX7_status, Cond.selects RX7 yX7_status yX7_status, Cond.code yX7_status cX7_status 2 (some .int), Cond.methodLink RL 154 yX8_status, Cond.instanceMethod yX8_status, Cond.selects RX8 yX8_status yX8_status, Cond.code yX8_status cX8_status 2 (some .int), Cond.constantLong RX8 291 (-7), Cond.constantLong RX8 293 (-2)]
def wsL_law : List Cond := (wsL_law_r1 ++ (wsL_law_r2 ++ (wsL_law_r3 ++ (wsL_law_r4 ++ (wsL_law_r5 ++ (wsL_law_r6 ++ (wsL_law_r7 ++ (wsL_law_r8 ++ (wsL_law_r9 ++ (wsL_law_r10 ++ (wsL_law_r11 ++ (wsL_law_r12 ++ (wsL_law_r13 ++ (wsL_law_r14 ++ (wsL_law_r15 ++ (wsL_law_r16 ++ (wsL_law_r17 ++ (wsL_law_r18 ++ (wsL_law_r19 ++ (wsL_law_r20 ++ (wsL_law_r21 ++ (wsL_law_r22 ++ (wsL_law_r23 ++ (wsL_law_r24 ++ (wsL_law_r25 ++ (wsL_law_r26 ++ (wsL_law_r27 ++ (wsL_law_r28 ++ (wsL_law_r29 ++ (wsL_law_r30 ++ (wsL_law_r31 ++ (wsL_law_r32 ++ (wsL_law_r33 ++ (wsL_law_r34 ++ (wsL_law_r35 ++ (wsL_law_r36 ++ wsL_law_r37)))))))))))))))))))))))))))))))))))) ++ wsX70 ++ wsX80 ++ wsX20 ++ wsX50 ++ wsX30 ++ wsX40 ++ wsX10 ++ wsX00 ++ wsX60 ++ ([] : List Cond)
end
section
theorem dX0_init_0 : decode cX0_init 0 = .ok (.aload_n 0, 1) := by decide +kernel
theorem dX0_init_1 : decode cX0_init 1 = .ok (.invokespecial 3, 3) := by decide +kernel
theorem dX0_init_4 : decode cX0_init 4 = .ok (.aload_n 0, 1) := by decide +kernel
theorem dX0_init_5 : decode cX0_init 5 = .ok (.iconst (-1), 1) := by decide +kernel
theorem dX0_init_6 : decode cX0_init 6 = .ok (.putfield 9, 3) := by decide +kernel
theorem dX0_init_9 : decode cX0_init 9 = .ok (.aload_n 0, 1) := by decide +kernel
theorem dX0_init_10 : decode cX0_init 10 = .ok (.bipush 30, 2) := by decide +kernel
theorem dX0_init_12 : decode cX0_init 12 = .ok (.newarray .int, 2) := by decide +kernel
theorem dX0_init_14 : decode cX0_init 14 = .ok (.putfield 15, 3) := by decide +kernel
theorem dX0_init_17 : decode cX0_init 17 = .ok (.aload_n 0, 1) := by decide +kernel
theorem dX0_init_18 : decode cX0_init 18 = .ok (.bipush 30, 2) := by decide +kernel
theorem dX0_init_20 : decode cX0_init 20 = .ok (.newarray .long, 2) := by decide +kernel
theorem dX0_init_22 : decode cX0_init 22 = .ok (.putfield 19, 3) := by decide +kernel
theorem dX0_init_25 : decode cX0_init 25 = .ok (.aload_n 0, 1) := by decide +kernel
theorem dX0_init_26 : decode cX0_init 26 = .ok (.bipush 74, 2) := by decide +kernel
theorem dX0_init_28 : decode cX0_init 28 = .ok (.newarray .long, 2) := by decide +kernel
theorem dX0_init_30 : decode cX0_init 30 = .ok (.putfield 23, 3) := by decide +kernel
theorem dX0_init_33 : decode cX0_init 33 = .ok (.aload_n 0, 1) := by decide +kernel
theorem dX0_init_34 : decode cX0_init 34 = .ok (.aload_n 1, 1) := by decide +kernel
theorem dX0_init_35 : decode cX0_init 35 = .ok (.putfield 26, 3) := by decide +kernel
theorem dX0_init_38 : decode cX0_init 38 = .ok (.aload_n 0, 1) := by decide +kernel
theorem dX0_init_39 : decode cX0_init 39 = .ok (.aload_n 2, 1) := by decide +kernel
theorem dX0_init_40 : decode cX0_init 40 = .ok (.putfield 30, 3) := by decide +kernel
theorem dX0_init_43 : decode cX0_init 43 = .ok (.aload_n 0, 1) := by decide +kernel
theorem dX0_init_44 : decode cX0_init 44 = .ok (.aload_n 3, 1) := by decide +kernel
theorem dX0_init_45 : decode cX0_init 45 = .ok (.putfield 34, 3) := by decide +kernel
theorem dX0_init_48 : decode cX0_init 48 = .ok (.return_, 1) := by decide +kernel
set_option maxRecDepth 20000 in
theorem ggX0_perform_X2_forgetOlds : GoodIn wsX0_perform wsX2_forgetOlds := goodIn_r _ [14, 15, 109, 110, 111, 112, 113] rfl (by decide +kernel)
set_option maxRecDepth 20000 in
theorem gX0_perform_X2_forgetOlds : GoodIn wsX0_perform (wsV RX0 38 RX2 yX2_forgetOlds wsX2_forgetOlds) := goodIn_app (goodIn_of _ (by decide +kernel)) ggX0_perform_X2_forgetOlds
theorem dX0_perform_0 : decode cX0_perform 0 = .ok (.aload_n 0, 1) := by decide +kernel
theorem dX0_perform_1 : decode cX0_perform 1 = .ok (.getfield 26, 3) := by decide +kernel
theorem dX0_perform_4 : decode cX0_perform 4 = .ok (.invokevirtual 38, 3) := by decide +kernel
theorem dX0_perform_7 : decode cX0_perform 7 = .ok (.aload_n 0, 1) := by decide +kernel
theorem dX0_perform_8 : decode cX0_perform 8 = .ok (.iconst (-1), 1) := by decide +kernel
theorem dX0_perform_9 : decode cX0_perform 9 = .ok (.putfield 9, 3) := by decide +kernel
theorem dX0_perform_12 : decode cX0_perform 12 = .ok (.aload_n 0, 1) := by decide +kernel
theorem dX0_perform_13 : decode cX0_perform 13 = .ok (.iconst 0, 1) := by decide +kernel
theorem dX0_perform_14 : decode cX0_perform 14 = .ok (.putfield 43, 3) := by decide +kernel
theorem dX0_perform_17 : decode cX0_perform 17 = .ok (.aload_n 0, 1) := by decide +kernel
theorem dX0_perform_18 : decode cX0_perform 18 = .ok (.iconst 0, 1) := by decide +kernel
theorem dX0_perform_19 : decode cX0_perform 19 = .ok (.putfield 46, 3) := by decide +kernel
theorem dX0_perform_22 : decode cX0_perform 22 = .ok (.iload_n 2, 1) := by decide +kernel
theorem dX0_perform_23 : decode cX0_perform 23 = .ok (.ifCond .eq 15, 3) := by decide +kernel
theorem dX0_perform_26 : decode cX0_perform 26 = .ok (.aload_n 0, 1) := by decide +kernel
theorem dX0_perform_27 : decode cX0_perform 27 = .ok (.getfield 34, 3) := by decide +kernel
theorem dX0_perform_30 : decode cX0_perform 30 = .ok (.getfield 49, 3) := by decide +kernel
theorem dX0_perform_33 : decode cX0_perform 33 = .ok (.iload_n 1, 1) := by decide +kernel
theorem dX0_perform_34 : decode cX0_perform 34 = .ok (.iaload, 1) := by decide +kernel
theorem dX0_perform_35 : decode cX0_perform 35 = .ok (.goto 12, 3) := by decide +kernel
theorem dX0_perform_38 : decode cX0_perform 38 = .ok (.aload_n 0, 1) := by decide +kernel
theorem dX0_perform_39 : decode cX0_perform 39 = .ok (.getfield 30, 3) := by decide +kernel
theorem dX0_perform_42 : decode cX0_perform 42 = .ok (.getfield 54, 3) := by decide +kernel
theorem dX0_perform_45 : decode cX0_perform 45 = .ok (.iload_n 1, 1) := by decide +kernel
theorem dX0_perform_46 : decode cX0_perform 46 = .ok (.iaload, 1) := by decide +kernel
theorem dX0_perform_47 : decode cX0_perform 47 = .ok (.istore_n 3, 1) := by decide +kernel
theorem dX0_perform_48 : decode cX0_perform 48 = .ok (.iconst 0, 1) := by decide +kernel
theorem dX0_perform_49 : decode cX0_perform 49 = .ok (.istore 4, 2) := by decide +kernel
theorem dX0_perform_51 : decode cX0_perform 51 = .ok (.iconst 0, 1) := by decide +kernel
theorem dX0_perform_52 : decode cX0_perform 52 = .ok (.istore 5, 2) := by decide +kernel
theorem dX0_perform_54 : decode cX0_perform 54 = .ok (.iload 5, 2) := by decide +kernel
theorem dX0_perform_56 : decode cX0_perform 56 = .ok (.iload_n 3, 1) := by decide +kernel
theorem dX0_perform_57 : decode cX0_perform 57 = .ok (.if_icmp .ge 78, 3) := by decide +kernel
theorem dX0_perform_135 : decode cX0_perform 135 = .ok (.iload 4, 2) := by decide +kernel
theorem dX0_perform_137 : decode cX0_perform 137 = .ok (.ireturn, 1) := by decide +kernel
set_option maxRecDepth 20000 in
theorem ggX0_endsAlike_X0_perform : GoodIn wsX0_endsAlike wsX0_perform := goodIn_r _ [12, 1, 13, 14, 15, 16, 17, 18, 19, 20, 21, 22, 23, 24, 25, 26, 27, 28, 29, 30, 31, 32, 11, 33, 34, 35, 36, 37, 38, 39, 40, 41, 42, 43, 44, 45, 46, 2, 47, 48, 49, 50, 51, 52, 53, 54, 55, 56, 57, 58, 59, 60, 61, 62, 63, 64, 65, 66, 67, 68, 69, 70, 71, 72, 73, 74, 75, 76, 77, 78, 79, 80, 81, 82, 83, 84, 85, 86, 87, 88, 89, 90, 91, 92, 93, 98, 99, 100, 101, 102, 103, 104, 105, 106, 107, 113, 114, 115, 116, 117, 118, 119, 120, 121, 122, 123, 124, 125, 126, 108, 109, 110, 111, 112] rfl (by decide +kernel)
set_option maxRecDepth 20000 in
theorem gX0_endsAlike_X0_perform : GoodIn wsX0_endsAlike (wsV RX0 73 RX0 yX0_perform wsX0_perform) := goodIn_app (goodIn_of _ (by decide +kernel)) ggX0_endsAlike_X0_perform
set_option maxRecDepth 20000 in
theorem ggX0_endsAlike_X2_goBack : GoodIn wsX0_endsAlike wsX2_goBack := goodIn_r _ [74, 26, 75, 76, 77, 108, 109, 110, 111, 112] rfl (by decide +kernel)
set_option maxRecDepth 20000 in
theorem gX0_endsAlike_X2_goBack : GoodIn wsX0_endsAlike (wsV RX0 86 RX2 yX2_goBack wsX2_goBack) := goodIn_app (goodIn_of _ (by decide +kernel)) ggX0_endsAlike_X2_goBack
set_option maxRecDepth 20000 in
theorem ggX0_endsAlike_X0_isOtherEnd : GoodIn wsX0_endsAlike wsX0_isOtherEnd := goodIn_r _ [97, 1, 2, 3, 98, 99, 100, 101, 102, 103, 104, 105, 106, 107, 108, 109, 110, 111, 112] rfl (by decide +kernel)
set_option maxRecDepth 20000 in
theorem gX0_endsAlike_X0_isOtherEnd : GoodIn wsX0_endsAlike (wsV RX0 89 RX0 yX0_isOtherEnd wsX0_isOtherEnd) := goodIn_app (goodIn_of _ (by decide +kernel)) ggX0_endsAlike_X0_isOtherEnd
theorem dX0_endsAlike_0 : decode cX0_endsAlike 0 = .ok (.aload_n 0, 1) := by decide +kernel
theorem dX0_endsAlike_1 : decode cX0_endsAlike 1 = .ok (.iload_n 1, 1) := by decide +kernel
theorem dX0_endsAlike_2 : decode cX0_endsAlike 2 = .ok (.iconst 1, 1) := by decide +kernel
theorem dX0_endsAlike_3 : decode cX0_endsAlike 3 = .ok (.invokevirtual 73, 3) := by decide +kernel
theorem dX0_endsAlike_6 : decode cX0_endsAlike 6 = .ok (.istore_n 2, 1) := by decide +kernel
theorem dX0_endsAlike_7 : decode cX0_endsAlike 7 = .ok (.aload_n 0, 1) := by decide +kernel
theorem dX0_endsAlike_8 : decode cX0_endsAlike 8 = .ok (.getfield 26, 3) := by decide +kernel
theorem dX0_endsAlike_11 : decode cX0_endsAlike 11 = .ok (.getfield 77, 3) := by decide +kernel
theorem dX0_endsAlike_14 : decode cX0_endsAlike 14 = .ok (.iconst 0, 1) := by decide +kernel
theorem dX0_endsAlike_15 : decode cX0_endsAlike 15 = .ok (.aload_n 0, 1) := by decide +kernel
theorem dX0_endsAlike_16 : decode cX0_endsAlike 16 = .ok (.getfield 23, 3) := by decide +kernel
theorem dX0_endsAlike_19 : decode cX0_endsAlike 19 = .ok (.iconst 0, 1) := by decide +kernel
theorem dX0_endsAlike_20 : decode cX0_endsAlike 20 = .ok (.bipush 74, 2) := by decide +kernel
theorem dX0_endsAlike_22 : decode cX0_endsAlike 22 = .ok (.invokestatic 80, 3) := by decide +kernel
theorem dX0_endsAlike_25 : decode cX0_endsAlike 25 = .ok (.aload_n 0, 1) := by decide +kernel
theorem dX0_endsAlike_26 : decode cX0_endsAlike 26 = .ok (.getfield 26, 3) := by decide +kernel
theorem dX0_endsAlike_29 : decode cX0_endsAlike 29 = .ok (.invokevirtual 86, 3) := by decide +kernel
theorem dX0_endsAlike_32 : decode cX0_endsAlike 32 = .ok (.aload_n 0, 1) := by decide +kernel
theorem dX0_endsAlike_33 : decode cX0_endsAlike 33 = .ok (.iload_n 1, 1) := by decide +kernel
theorem dX0_endsAlike_34 : decode cX0_endsAlike 34 = .ok (.iconst 0, 1) := by decide +kernel
theorem dX0_endsAlike_35 : decode cX0_endsAlike 35 = .ok (.invokevirtual 73, 3) := by decide +kernel
theorem dX0_endsAlike_38 : decode cX0_endsAlike 38 = .ok (.iload_n 2, 1) := by decide +kernel
theorem dX0_endsAlike_39 : decode cX0_endsAlike 39 = .ok (.if_icmp .ne 14, 3) := by decide +kernel
theorem dX0_endsAlike_42 : decode cX0_endsAlike 42 = .ok (.aload_n 0, 1) := by decide +kernel
theorem dX0_endsAlike_43 : decode cX0_endsAlike 43 = .ok (.invokevirtual 89, 3) := by decide +kernel
theorem dX0_endsAlike_46 : decode cX0_endsAlike 46 = .ok (.ifCond .eq 7, 3) := by decide +kernel
theorem dX0_endsAlike_49 : decode cX0_endsAlike 49 = .ok (.iconst 1, 1) := by decide +kernel
theorem dX0_endsAlike_50 : decode cX0_endsAlike 50 = .ok (.goto 4, 3) := by decide +kernel
theorem dX0_endsAlike_54 : decode cX0_endsAlike 54 = .ok (.istore_n 3, 1) := by decide +kernel
theorem dX0_endsAlike_55 : decode cX0_endsAlike 55 = .ok (.aload_n 0, 1) := by decide +kernel
theorem dX0_endsAlike_56 : decode cX0_endsAlike 56 = .ok (.getfield 26, 3) := by decide +kernel
theorem dX0_endsAlike_59 : decode cX0_endsAlike 59 = .ok (.invokevirtual 86, 3) := by decide +kernel
theorem dX0_endsAlike_62 : decode cX0_endsAlike 62 = .ok (.iload_n 3, 1) := by decide +kernel
theorem dX0_endsAlike_63 : decode cX0_endsAlike 63 = .ok (.ireturn, 1) := by decide +kernel
theorem dX0_isOtherEnd_0 : decode cX0_isOtherEnd 0 = .ok (.iconst 0, 1) := by decide +kernel
theorem dX0_isOtherEnd_1 : decode cX0_isOtherEnd 1 = .ok (.istore_n 1, 1) := by decide +kernel
theorem dX0_isOtherEnd_2 : decode cX0_isOtherEnd 2 = .ok (.iload_n 1, 1) := by decide +kernel
theorem dX0_isOtherEnd_3 : decode cX0_isOtherEnd 3 = .ok (.bipush 74, 2) := by decide +kernel
theorem dX0_isOtherEnd_5 : decode cX0_isOtherEnd 5 = .ok (.if_icmp .ge 30, 3) := by decide +kernel
theorem dX0_isOtherEnd_8 : decode cX0_isOtherEnd 8 = .ok (.aload_n 0, 1) := by decide +kernel
theorem dX0_isOtherEnd_9 : decode cX0_isOtherEnd 9 = .ok (.getfield 26, 3) := by decide +kernel
theorem dX0_isOtherEnd_12 : decode cX0_isOtherEnd 12 = .ok (.getfield 77, 3) := by decide +kernel
theorem dX0_isOtherEnd_15 : decode cX0_isOtherEnd 15 = .ok (.iload_n 1, 1) := by decide +kernel
theorem dX0_isOtherEnd_16 : decode cX0_isOtherEnd 16 = .ok (.laload, 1) := by decide +kernel
theorem dX0_isOtherEnd_17 : decode cX0_isOtherEnd 17 = .ok (.aload_n 0, 1) := by decide +kernel
theorem dX0_isOtherEnd_18 : decode cX0_isOtherEnd 18 = .ok (.getfield 23, 3) := by decide +kernel
theorem dX0_isOtherEnd_21 : decode cX0_isOtherEnd 21 = .ok (.iload_n 1, 1) := by decide +kernel
theorem dX0_isOtherEnd_22 : decode cX0_isOtherEnd 22 = .ok (.laload, 1) := by decide +kernel
theorem dX0_isOtherEnd_23 : decode cX0_isOtherEnd 23 = .ok (.lcmp, 1) := by decide +kernel
theorem dX0_isOtherEnd_24 : decode cX0_isOtherEnd 24 = .ok (.ifCond .eq 5, 3) := by decide +kernel
theorem dX0_isOtherEnd_29 : decode cX0_isOtherEnd 29 = .ok (.iinc 1 1, 3) := by decide +kernel
theorem dX0_isOtherEnd_32 : decode cX0_isOtherEnd 32 = .ok (.goto (-30), 3) := by decide +kernel
theorem dX0_isOtherEnd_35 : decode cX0_isOtherEnd 35 = .ok (.iconst 1, 1) := by decide +kernel
theorem dX0_isOtherEnd_36 : decode cX0_isOtherEnd 36 = .ok (.ireturn, 1) := by decide +kernel
theorem dX1_init_0 : decode cX1_init 0 = .ok (.aload_n 0, 1) := by decide +kernel
theorem dX1_init_1 : decode cX1_init 1 = .ok (.invokespecial 3, 3) := by decide +kernel
theorem dX1_init_4 : decode cX1_init 4 = .ok (.aload_n 0, 1) := by decide +kernel
theorem dX1_init_5 : decode cX1_init 5 = .ok (.bipush 7, 2) := by decide +kernel
theorem dX1_init_7 : decode cX1_init 7 = .ok (.newarray .int, 2) := by decide +kernel
theorem dX1_init_9 : decode cX1_init 9 = .ok (.putfield 9, 3) := by decide +kernel
theorem dX1_init_12 : decode cX1_init 12 = .ok (.aload_n 0, 1) := by decide +kernel
theorem dX1_init_13 : decode cX1_init 13 = .ok (.bipush 120, 2) := by decide +kernel
theorem dX1_init_15 : decode cX1_init 15 = .ok (.newarray .int, 2) := by decide +kernel
theorem dX1_init_17 : decode cX1_init 17 = .ok (.putfield 15, 3) := by decide +kernel
theorem dX1_init_20 : decode cX1_init 20 = .ok (.aload_n 0, 1) := by decide +kernel
theorem dX1_init_21 : decode cX1_init 21 = .ok (.bipush 120, 2) := by decide +kernel
theorem dX1_init_23 : decode cX1_init 23 = .ok (.newarray .int, 2) := by decide +kernel
theorem dX1_init_25 : decode cX1_init 25 = .ok (.putfield 18, 3) := by decide +kernel
theorem dX1_init_28 : decode cX1_init 28 = .ok (.aload_n 0, 1) := by decide +kernel
theorem dX1_init_29 : decode cX1_init 29 = .ok (.bipush 7, 2) := by decide +kernel
theorem dX1_init_31 : decode cX1_init 31 = .ok (.newarray .int, 2) := by decide +kernel
theorem dX1_init_33 : decode cX1_init 33 = .ok (.putfield 21, 3) := by decide +kernel
theorem dX1_init_36 : decode cX1_init 36 = .ok (.aload_n 0, 1) := by decide +kernel
theorem dX1_init_37 : decode cX1_init 37 = .ok (.bipush 7, 2) := by decide +kernel
theorem dX1_init_39 : decode cX1_init 39 = .ok (.newarray .int, 2) := by decide +kernel
theorem dX1_init_41 : decode cX1_init 41 = .ok (.putfield 24, 3) := by decide +kernel
theorem dX1_init_44 : decode cX1_init 44 = .ok (.aload_n 0, 1) := by decide +kernel
theorem dX1_init_45 : decode cX1_init 45 = .ok (.bipush 7, 2) := by decide +kernel
theorem dX1_init_47 : decode cX1_init 47 = .ok (.newarray .int, 2) := by decide +kernel
theorem dX1_init_49 : decode cX1_init 49 = .ok (.putfield 27, 3) := by decide +kernel
theorem dX1_init_52 : decode cX1_init 52 = .ok (.aload_n 0, 1) := by decide +kernel
theorem dX1_init_53 : decode cX1_init 53 = .ok (.bipush 7, 2) := by decide +kernel
theorem dX1_init_55 : decode cX1_init 55 = .ok (.newarray .int, 2) := by decide +kernel
theorem dX1_init_57 : decode cX1_init 57 = .ok (.putfield 30, 3) := by decide +kernel
theorem dX1_init_60 : decode cX1_init 60 = .ok (.aload_n 0, 1) := by decide +kernel
theorem dX1_init_61 : decode cX1_init 61 = .ok (.aload_n 1, 1) := by decide +kernel
theorem dX1_init_62 : decode cX1_init 62 = .ok (.putfield 33, 3) := by decide +kernel
theorem dX1_init_65 : decode cX1_init 65 = .ok (.aload_n 0, 1) := by decide +kernel
theorem dX1_init_66 : decode cX1_init 66 = .ok (.aload_n 2, 1) := by decide +kernel
theorem dX1_init_67 : decode cX1_init 67 = .ok (.putfield 37, 3) := by decide +kernel
theorem dX1_init_70 : decode cX1_init 70 = .ok (.return_, 1) := by decide +kernel
set_option maxRecDepth 20000 in
theorem ggX1_make_J7_fill_53178 : GoodIn wsX1_make wsJ7_fill_53178 := goodIn_r _ [14] rfl (by decide +kernel)
set_option maxRecDepth 20000 in
theorem gX1_make_J7_fill_53178 : GoodIn wsX1_make (va_wsS RX1 45 yJ7_fill_53178 wsJ7_fill_53178) := goodIn_app (goodIn_of _ (by decide +kernel)) ggX1_make_J7_fill_53178
set_option maxRecDepth 20000 in
theorem ggX1_make_X1_makeGroups : GoodIn wsX1_make wsX1_makeGroups := goodIn_r _ [52, 9, 53, 10, 54, 2, 55, 56, 57, 58, 11, 12, 13, 14, 59, 60, 61, 18, 62, 3, 66, 67, 68, 69, 70, 71, 72, 73, 74, 75, 76, 77] rfl (by decide +kernel)
set_option maxRecDepth 20000 in
theorem gX1_make_X1_makeGroups : GoodIn wsX1_make (wsV RX1 70 RX1 yX1_makeGroups wsX1_makeGroups) := goodIn_app (goodIn_of _ (by decide +kernel)) ggX1_make_X1_makeGroups
set_option maxRecDepth 20000 in
theorem ggX1_make_X1_bitsToTell : GoodIn wsX1_make wsX1_bitsToTell := goodIn_r _ [65] rfl (by decide +kernel)
set_option maxRecDepth 20000 in
theorem gX1_make_X1_bitsToTell : GoodIn wsX1_make (va_wsS RX1 73 yX1_bitsToTell wsX1_bitsToTell) := goodIn_app (goodIn_of _ (by decide +kernel)) ggX1_make_X1_bitsToTell
theorem dX1_make_0 : decode cX1_make 0 = .ok (.aload_n 0, 1) := by decide +kernel
theorem dX1_make_1 : decode cX1_make 1 = .ok (.iconst 0, 1) := by decide +kernel
theorem dX1_make_2 : decode cX1_make 2 = .ok (.putfield 41, 3) := by decide +kernel
theorem dX1_make_5 : decode cX1_make 5 = .ok (.aload_n 0, 1) := by decide +kernel
theorem dX1_make_6 : decode cX1_make 6 = .ok (.getfield 21, 3) := by decide +kernel
theorem dX1_make_9 : decode cX1_make 9 = .ok (.iconst 0, 1) := by decide +kernel
theorem dX1_make_10 : decode cX1_make 10 = .ok (.invokestatic 45, 3) := by decide +kernel
theorem dX1_make_13 : decode cX1_make 13 = .ok (.aload_n 0, 1) := by decide +kernel
theorem dX1_make_14 : decode cX1_make 14 = .ok (.getfield 24, 3) := by decide +kernel
theorem dX1_make_17 : decode cX1_make 17 = .ok (.iconst 0, 1) := by decide +kernel
theorem dX1_make_18 : decode cX1_make 18 = .ok (.invokestatic 45, 3) := by decide +kernel
theorem dX1_make_21 : decode cX1_make 21 = .ok (.iconst 0, 1) := by decide +kernel
theorem dX1_make_22 : decode cX1_make 22 = .ok (.istore_n 1, 1) := by decide +kernel
theorem dX1_make_23 : decode cX1_make 23 = .ok (.iload_n 1, 1) := by decide +kernel
theorem dX1_make_24 : decode cX1_make 24 = .ok (.aload_n 0, 1) := by decide +kernel
theorem dX1_make_25 : decode cX1_make 25 = .ok (.getfield 37, 3) := by decide +kernel
theorem dX1_make_28 : decode cX1_make 28 = .ok (.getfield 51, 3) := by decide +kernel
theorem dX1_make_31 : decode cX1_make 31 = .ok (.if_icmp .ge 35, 3) := by decide +kernel
theorem dX1_make_66 : decode cX1_make 66 = .ok (.aload_n 0, 1) := by decide +kernel
theorem dX1_make_67 : decode cX1_make 67 = .ok (.invokevirtual 70, 3) := by decide +kernel
theorem dX1_make_70 : decode cX1_make 70 = .ok (.aload_n 0, 1) := by decide +kernel
theorem dX1_make_71 : decode cX1_make 71 = .ok (.aload_n 0, 1) := by decide +kernel
theorem dX1_make_72 : decode cX1_make 72 = .ok (.getfield 37, 3) := by decide +kernel
theorem dX1_make_75 : decode cX1_make 75 = .ok (.getfield 51, 3) := by decide +kernel
theorem dX1_make_78 : decode cX1_make 78 = .ok (.iconst 1, 1) := by decide +kernel
theorem dX1_make_79 : decode cX1_make 79 = .ok (.iadd, 1) := by decide +kernel
theorem dX1_make_80 : decode cX1_make 80 = .ok (.invokestatic 73, 3) := by decide +kernel
theorem dX1_make_83 : decode cX1_make 83 = .ok (.putfield 77, 3) := by decide +kernel
theorem dX1_make_86 : decode cX1_make 86 = .ok (.iconst 0, 1) := by decide +kernel
theorem dX1_make_87 : decode cX1_make 87 = .ok (.istore_n 1, 1) := by decide +kernel
theorem dX1_make_88 : decode cX1_make 88 = .ok (.iload_n 1, 1) := by decide +kernel
theorem dX1_make_89 : decode cX1_make 89 = .ok (.aload_n 0, 1) := by decide +kernel
theorem dX1_make_90 : decode cX1_make 90 = .ok (.getfield 80, 3) := by decide +kernel
theorem dX1_make_93 : decode cX1_make 93 = .ok (.if_icmp .ge 29, 3) := by decide +kernel
theorem dX1_make_122 : decode cX1_make 122 = .ok (.return_, 1) := by decide +kernel
set_option maxRecDepth 20000 in
theorem ggX1_makeGroups_J7_fill_53178 : GoodIn wsX1_makeGroups wsJ7_fill_53178 := goodIn_r _ [13] rfl (by decide +kernel)
set_option maxRecDepth 20000 in
theorem gX1_makeGroups_J7_fill_53178 : GoodIn wsX1_makeGroups (va_wsS RX1 45 yJ7_fill_53178 wsJ7_fill_53178) := goodIn_app (goodIn_of _ (by decide +kernel)) ggX1_makeGroups_J7_fill_53178
theorem dX1_makeGroups_0 : decode cX1_makeGroups 0 = .ok (.aload_n 0, 1) := by decide +kernel
theorem dX1_makeGroups_1 : decode cX1_makeGroups 1 = .ok (.iconst 0, 1) := by decide +kernel
theorem dX1_makeGroups_2 : decode cX1_makeGroups 2 = .ok (.putfield 80, 3) := by decide +kernel
theorem dX1_makeGroups_5 : decode cX1_makeGroups 5 = .ok (.aload_n 0, 1) := by decide +kernel
theorem dX1_makeGroups_6 : decode cX1_makeGroups 6 = .ok (.getfield 27, 3) := by decide +kernel
theorem dX1_makeGroups_9 : decode cX1_makeGroups 9 = .ok (.iconst 0, 1) := by decide +kernel
theorem dX1_makeGroups_10 : decode cX1_makeGroups 10 = .ok (.invokestatic 45, 3) := by decide +kernel
theorem dX1_makeGroups_13 : decode cX1_makeGroups 13 = .ok (.aload_n 0, 1) := by decide +kernel
theorem dX1_makeGroups_14 : decode cX1_makeGroups 14 = .ok (.getfield 30, 3) := by decide +kernel
theorem dX1_makeGroups_17 : decode cX1_makeGroups 17 = .ok (.iconst 0, 1) := by decide +kernel
theorem dX1_makeGroups_18 : decode cX1_makeGroups 18 = .ok (.invokestatic 45, 3) := by decide +kernel
theorem dX1_makeGroups_21 : decode cX1_makeGroups 21 = .ok (.iconst 0, 1) := by decide +kernel
theorem dX1_makeGroups_22 : decode cX1_makeGroups 22 = .ok (.istore_n 1, 1) := by decide +kernel
theorem dX1_makeGroups_23 : decode cX1_makeGroups 23 = .ok (.iload_n 1, 1) := by decide +kernel
theorem dX1_makeGroups_24 : decode cX1_makeGroups 24 = .ok (.bipush 7, 2) := by decide +kernel
theorem dX1_makeGroups_26 : decode cX1_makeGroups 26 = .ok (.if_icmp .ge 79, 3) := by decide +kernel
theorem dX1_makeGroups_29 : decode cX1_makeGroups 29 = .ok (.aload_n 0, 1) := by decide +kernel
theorem dX1_makeGroups_30 : decode cX1_makeGroups 30 = .ok (.getfield 9, 3) := by decide +kernel
theorem dX1_makeGroups_33 : decode cX1_makeGroups 33 = .ok (.iload_n 1, 1) := by decide +kernel
theorem dX1_makeGroups_34 : decode cX1_makeGroups 34 = .ok (.iconst (-1), 1) := by decide +kernel
theorem dX1_makeGroups_35 : decode cX1_makeGroups 35 = .ok (.iastore, 1) := by decide +kernel
theorem dX1_makeGroups_36 : decode cX1_makeGroups 36 = .ok (.aload_n 0, 1) := by decide +kernel
theorem dX1_makeGroups_37 : decode cX1_makeGroups 37 = .ok (.getfield 21, 3) := by decide +kernel
theorem dX1_makeGroups_40 : decode cX1_makeGroups 40 = .ok (.iload_n 1, 1) := by decide +kernel
theorem dX1_makeGroups_41 : decode cX1_makeGroups 41 = .ok (.iaload, 1) := by decide +kernel
theorem dX1_makeGroups_42 : decode cX1_makeGroups 42 = .ok (.ifCond .le 57, 3) := by decide +kernel
theorem dX1_makeGroups_99 : decode cX1_makeGroups 99 = .ok (.iinc 1 1, 3) := by decide +kernel
theorem dX1_makeGroups_102 : decode cX1_makeGroups 102 = .ok (.goto (-79), 3) := by decide +kernel
theorem dX1_makeGroups_105 : decode cX1_makeGroups 105 = .ok (.return_, 1) := by decide +kernel
theorem dX1_bitsToTell_0 : decode cX1_bitsToTell 0 = .ok (.iconst 0, 1) := by decide +kernel
theorem dX1_bitsToTell_1 : decode cX1_bitsToTell 1 = .ok (.istore_n 1, 1) := by decide +kernel
theorem dX1_bitsToTell_2 : decode cX1_bitsToTell 2 = .ok (.iconst 1, 1) := by decide +kernel
theorem dX1_bitsToTell_3 : decode cX1_bitsToTell 3 = .ok (.istore_n 2, 1) := by decide +kernel
theorem dX1_bitsToTell_4 : decode cX1_bitsToTell 4 = .ok (.iload_n 2, 1) := by decide +kernel
theorem dX1_bitsToTell_5 : decode cX1_bitsToTell 5 = .ok (.iload_n 0, 1) := by decide +kernel
theorem dX1_bitsToTell_6 : decode cX1_bitsToTell 6 = .ok (.if_icmp .ge 13, 3) := by decide +kernel
theorem dX1_bitsToTell_19 : decode cX1_bitsToTell 19 = .ok (.iload_n 1, 1) := by decide +kernel
theorem dX1_bitsToTell_20 : decode cX1_bitsToTell 20 = .ok (.ireturn, 1) := by decide +kernel
set_option maxRecDepth 20000 in
theorem ggX2_init_J7_fill_53178 : GoodIn wsX2_init wsJ7_fill_53178 := goodIn_r _ [13] rfl (by decide +kernel)
set_option maxRecDepth 20000 in
theorem gX2_init_J7_fill_53178 : GoodIn wsX2_init (va_wsS RX2 25 yJ7_fill_53178 wsJ7_fill_53178) := goodIn_app (goodIn_of _ (by decide +kernel)) ggX2_init_J7_fill_53178
theorem dX2_init_0 : decode cX2_init 0 = .ok (.aload_n 0, 1) := by decide +kernel
theorem dX2_init_1 : decode cX2_init 1 = .ok (.invokespecial 3, 3) := by decide +kernel
theorem dX2_init_4 : decode cX2_init 4 = .ok (.aload_n 0, 1) := by decide +kernel
theorem dX2_init_5 : decode cX2_init 5 = .ok (.bipush 8, 2) := by decide +kernel
theorem dX2_init_7 : decode cX2_init 7 = .ok (.newarray .int, 2) := by decide +kernel
theorem dX2_init_9 : decode cX2_init 9 = .ok (.putfield 9, 3) := by decide +kernel
theorem dX2_init_12 : decode cX2_init 12 = .ok (.aload_n 0, 1) := by decide +kernel
theorem dX2_init_13 : decode cX2_init 13 = .ok (.bipush 74, 2) := by decide +kernel
theorem dX2_init_15 : decode cX2_init 15 = .ok (.newarray .long, 2) := by decide +kernel
theorem dX2_init_17 : decode cX2_init 17 = .ok (.putfield 15, 3) := by decide +kernel
theorem dX2_init_20 : decode cX2_init 20 = .ok (.aload_n 0, 1) := by decide +kernel
theorem dX2_init_21 : decode cX2_init 21 = .ok (.bipush 30, 2) := by decide +kernel
theorem dX2_init_23 : decode cX2_init 23 = .ok (.newarray .int, 2) := by decide +kernel
theorem dX2_init_25 : decode cX2_init 25 = .ok (.putfield 19, 3) := by decide +kernel
theorem dX2_init_28 : decode cX2_init 28 = .ok (.aload_n 0, 1) := by decide +kernel
theorem dX2_init_29 : decode cX2_init 29 = .ok (.bipush 30, 2) := by decide +kernel
theorem dX2_init_31 : decode cX2_init 31 = .ok (.newarray .long, 2) := by decide +kernel
theorem dX2_init_33 : decode cX2_init 33 = .ok (.putfield 22, 3) := by decide +kernel
theorem dX2_init_36 : decode cX2_init 36 = .ok (.aload_n 0, 1) := by decide +kernel
theorem dX2_init_37 : decode cX2_init 37 = .ok (.getfield 9, 3) := by decide +kernel
theorem dX2_init_40 : decode cX2_init 40 = .ok (.bipush 16, 2) := by decide +kernel
theorem dX2_init_42 : decode cX2_init 42 = .ok (.invokestatic 25, 3) := by decide +kernel
theorem dX2_init_45 : decode cX2_init 45 = .ok (.return_, 1) := by decide +kernel
theorem dX2_cutFor_0 : decode cX2_cutFor 0 = .ok (.iload_n 1, 1) := by decide +kernel
theorem dX2_cutFor_1 : decode cX2_cutFor 1 = .ok (.bipush 8, 2) := by decide +kernel
theorem dX2_cutFor_3 : decode cX2_cutFor 3 = .ok (.if_icmp .ge 12, 3) := by decide +kernel
theorem dX2_cutFor_6 : decode cX2_cutFor 6 = .ok (.aload_n 0, 1) := by decide +kernel
theorem dX2_cutFor_7 : decode cX2_cutFor 7 = .ok (.getfield 9, 3) := by decide +kernel
theorem dX2_cutFor_10 : decode cX2_cutFor 10 = .ok (.iload_n 1, 1) := by decide +kernel
theorem dX2_cutFor_11 : decode cX2_cutFor 11 = .ok (.iaload, 1) := by decide +kernel
theorem dX2_cutFor_12 : decode cX2_cutFor 12 = .ok (.goto 5, 3) := by decide +kernel
theorem dX2_cutFor_15 : decode cX2_cutFor 15 = .ok (.bipush 32, 2) := by decide +kernel
theorem dX2_cutFor_17 : decode cX2_cutFor 17 = .ok (.istore 4, 2) := by decide +kernel
theorem dX2_cutFor_19 : decode cX2_cutFor 19 = .ok (.lload_n 2, 1) := by decide +kernel
theorem dX2_cutFor_20 : decode cX2_cutFor 20 = .ok (.lconst 1, 1) := by decide +kernel
theorem dX2_cutFor_21 : decode cX2_cutFor 21 = .ok (.iload 4, 2) := by decide +kernel
theorem dX2_cutFor_23 : decode cX2_cutFor 23 = .ok (.lshl, 1) := by decide +kernel
theorem dX2_cutFor_24 : decode cX2_cutFor 24 = .ok (.lconst 1, 1) := by decide +kernel
theorem dX2_cutFor_25 : decode cX2_cutFor 25 = .ok (.lsub, 1) := by decide +kernel
theorem dX2_cutFor_26 : decode cX2_cutFor 26 = .ok (.land, 1) := by decide +kernel
theorem dX2_cutFor_27 : decode cX2_cutFor 27 = .ok (.lreturn, 1) := by decide +kernel
set_option maxRecDepth 20000 in
theorem ggX2_put_X2_cutFor : GoodIn wsX2_put wsX2_cutFor := goodIn_r _ [6, 7, 8, 9, 10, 11, 12] rfl (by decide +kernel)
set_option maxRecDepth 20000 in
theorem gX2_put_X2_cutFor : GoodIn wsX2_put (wsV RX2 31 RX2 yX2_cutFor wsX2_cutFor) := goodIn_app (goodIn_of _ (by decide +kernel)) ggX2_put_X2_cutFor
theorem dX2_put_0 : decode cX2_put 0 = .ok (.aload_n 0, 1) := by decide +kernel
theorem dX2_put_1 : decode cX2_put 1 = .ok (.getfield 15, 3) := by decide +kernel
theorem dX2_put_4 : decode cX2_put 4 = .ok (.iload_n 1, 1) := by decide +kernel
theorem dX2_put_5 : decode cX2_put 5 = .ok (.laload, 1) := by decide +kernel
theorem dX2_put_6 : decode cX2_put 6 = .ok (.lstore 4, 2) := by decide +kernel
theorem dX2_put_8 : decode cX2_put 8 = .ok (.aload_n 0, 1) := by decide +kernel
theorem dX2_put_9 : decode cX2_put 9 = .ok (.getfield 15, 3) := by decide +kernel
theorem dX2_put_12 : decode cX2_put 12 = .ok (.iload_n 1, 1) := by decide +kernel
theorem dX2_put_13 : decode cX2_put 13 = .ok (.aload_n 0, 1) := by decide +kernel
theorem dX2_put_14 : decode cX2_put 14 = .ok (.iload_n 1, 1) := by decide +kernel
theorem dX2_put_15 : decode cX2_put 15 = .ok (.lload_n 2, 1) := by decide +kernel
theorem dX2_put_16 : decode cX2_put 16 = .ok (.invokevirtual 31, 3) := by decide +kernel
theorem dX2_put_19 : decode cX2_put 19 = .ok (.lastore, 1) := by decide +kernel
theorem dX2_put_20 : decode cX2_put 20 = .ok (.aload_n 0, 1) := by decide +kernel
theorem dX2_put_21 : decode cX2_put 21 = .ok (.getfield 15, 3) := by decide +kernel
theorem dX2_put_24 : decode cX2_put 24 = .ok (.iload_n 1, 1) := by decide +kernel
theorem dX2_put_25 : decode cX2_put 25 = .ok (.laload, 1) := by decide +kernel
theorem dX2_put_26 : decode cX2_put 26 = .ok (.lload 4, 2) := by decide +kernel
theorem dX2_put_28 : decode cX2_put 28 = .ok (.lcmp, 1) := by decide +kernel
theorem dX2_put_29 : decode cX2_put 29 = .ok (.ifCond .ne 7, 3) := by decide +kernel
theorem dX2_put_32 : decode cX2_put 32 = .ok (.iconst 0, 1) := by decide +kernel
theorem dX2_put_33 : decode cX2_put 33 = .ok (.goto 4, 3) := by decide +kernel
theorem dX2_put_36 : decode cX2_put 36 = .ok (.iconst 1, 1) := by decide +kernel
theorem dX2_put_37 : decode cX2_put 37 = .ok (.ireturn, 1) := by decide +kernel
theorem dX2_forgetOlds_0 : decode cX2_forgetOlds 0 = .ok (.aload_n 0, 1) := by decide +kernel
theorem dX2_forgetOlds_1 : decode cX2_forgetOlds 1 = .ok (.iconst 0, 1) := by decide +kernel
theorem dX2_forgetOlds_2 : decode cX2_forgetOlds 2 = .ok (.putfield 35, 3) := by decide +kernel
theorem dX2_forgetOlds_5 : decode cX2_forgetOlds 5 = .ok (.return_, 1) := by decide +kernel
theorem dX2_goBack_0 : decode cX2_goBack 0 = .ok (.aload_n 0, 1) := by decide +kernel
theorem dX2_goBack_1 : decode cX2_goBack 1 = .ok (.getfield 35, 3) := by decide +kernel
theorem dX2_goBack_4 : decode cX2_goBack 4 = .ok (.iconst 1, 1) := by decide +kernel
theorem dX2_goBack_5 : decode cX2_goBack 5 = .ok (.isub, 1) := by decide +kernel
theorem dX2_goBack_6 : decode cX2_goBack 6 = .ok (.istore_n 1, 1) := by decide +kernel
theorem dX2_goBack_7 : decode cX2_goBack 7 = .ok (.iload_n 1, 1) := by decide +kernel
theorem dX2_goBack_8 : decode cX2_goBack 8 = .ok (.ifCond .lt 26, 3) := by decide +kernel
theorem dX2_goBack_34 : decode cX2_goBack 34 = .ok (.aload_n 0, 1) := by decide +kernel
theorem dX2_goBack_35 : decode cX2_goBack 35 = .ok (.iconst 0, 1) := by decide +kernel
theorem dX2_goBack_36 : decode cX2_goBack 36 = .ok (.putfield 35, 3) := by decide +kernel
theorem dX2_goBack_39 : decode cX2_goBack 39 = .ok (.return_, 1) := by decide +kernel
set_option maxRecDepth 20000 in
theorem ggX3_init_X6_init : GoodIn wsX3_init wsX6_init := goodIn_r _ [18, 19, 2, 3, 6, 20, 21, 22, 23, 24, 25, 26, 27, 28, 36, 37, 38, 39, 40, 41, 42, 43, 44, 45] rfl (by decide +kernel)
set_option maxRecDepth 20000 in
theorem gX3_init_X6_init : GoodIn wsX3_init (wsX6_init) := ggX3_init_X6_init
theorem dX3_init_0 : decode cX3_init 0 = .ok (.aload_n 0, 1) := by decide +kernel
theorem dX3_init_1 : decode cX3_init 1 = .ok (.invokespecial 3, 3) := by decide +kernel
theorem dX3_init_4 : decode cX3_init 4 = .ok (.aload_n 0, 1) := by decide +kernel
theorem dX3_init_5 : decode cX3_init 5 = .ok (.bipush 12, 2) := by decide +kernel
theorem dX3_init_7 : decode cX3_init 7 = .ok (.newarray .boolean, 2) := by decide +kernel
theorem dX3_init_9 : decode cX3_init 9 = .ok (.putfield 9, 3) := by decide +kernel
theorem dX3_init_12 : decode cX3_init 12 = .ok (.aload_n 0, 1) := by decide +kernel
theorem dX3_init_13 : decode cX3_init 13 = .ok (.bipush 12, 2) := by decide +kernel
theorem dX3_init_15 : decode cX3_init 15 = .ok (.newarray .int, 2) := by decide +kernel
theorem dX3_init_17 : decode cX3_init 17 = .ok (.putfield 15, 3) := by decide +kernel
theorem dX3_init_20 : decode cX3_init 20 = .ok (.aload_n 0, 1) := by decide +kernel
theorem dX3_init_21 : decode cX3_init 21 = .ok (.bipush 120, 2) := by decide +kernel
theorem dX3_init_23 : decode cX3_init 23 = .ok (.newarray .int, 2) := by decide +kernel
theorem dX3_init_25 : decode cX3_init 25 = .ok (.putfield 19, 3) := by decide +kernel
theorem dX3_init_28 : decode cX3_init 28 = .ok (.aload_n 0, 1) := by decide +kernel
theorem dX3_init_29 : decode cX3_init 29 = .ok (.bipush 120, 2) := by decide +kernel
theorem dX3_init_31 : decode cX3_init 31 = .ok (.newarray .int, 2) := by decide +kernel
theorem dX3_init_33 : decode cX3_init 33 = .ok (.putfield 22, 3) := by decide +kernel
theorem dX3_init_36 : decode cX3_init 36 = .ok (.aload_n 0, 1) := by decide +kernel
theorem dX3_init_37 : decode cX3_init 37 = .ok (.iconst 1, 1) := by decide +kernel
theorem dX3_init_38 : decode cX3_init 38 = .ok (.putfield 25, 3) := by decide +kernel
theorem dX3_init_41 : decode cX3_init 41 = .ok (.aload_n 0, 1) := by decide +kernel
theorem dX3_init_42 : decode cX3_init 42 = .ok (.aload_n 1, 1) := by decide +kernel
theorem dX3_init_43 : decode cX3_init 43 = .ok (.putfield 29, 3) := by decide +kernel
theorem dX3_init_46 : decode cX3_init 46 = .ok (.aload_n 0, 1) := by decide +kernel
theorem dX3_init_47 : decode cX3_init 47 = .ok (.new 33, 3) := by decide +kernel
theorem dX3_init_50 : decode cX3_init 50 = .ok (.dup, 1) := by decide +kernel
theorem dX3_init_51 : decode cX3_init 51 = .ok (.aload_n 1, 1) := by decide +kernel
theorem dX3_init_52 : decode cX3_init 52 = .ok (.invokespecial 35, 3) := by decide +kernel
theorem dX3_init_55 : decode cX3_init 55 = .ok (.putfield 38, 3) := by decide +kernel
theorem dX3_init_58 : decode cX3_init 58 = .ok (.return_, 1) := by decide +kernel
set_option maxRecDepth 20000 in
theorem ggX3_make_X6_solve : GoodIn wsX3_make wsX6_solve := goodIn_r _ [12, 13, 14, 15, 16, 17, 18, 19, 20, 11, 21, 22, 23, 24, 25, 26, 27, 28, 29, 30, 31, 32, 33, 34, 35, 36, 37, 38, 39, 40, 41, 42, 43, 44, 45, 46, 47, 48, 49, 50, 51, 52, 53, 54, 55, 56, 57, 58, 59, 60, 61, 62, 63, 64, 65, 66, 67, 68, 69, 70, 71, 72, 73, 74, 75, 76, 77, 78, 79, 80, 81, 82, 83, 84, 85, 86, 94, 95, 96, 97, 98, 99, 100, 101, 102, 103, 104, 105, 106, 107, 108, 109, 110] rfl (by decide +kernel)
set_option maxRecDepth 20000 in
theorem gX3_make_X6_solve : GoodIn wsX3_make (wsV RX3 42 RX6 yX6_solve wsX6_solve) := goodIn_app (goodIn_of _ (by decide +kernel)) ggX3_make_X6_solve
theorem dX3_make_0 : decode cX3_make 0 = .ok (.aload_n 0, 1) := by decide +kernel
theorem dX3_make_1 : decode cX3_make 1 = .ok (.getfield 9, 3) := by decide +kernel
theorem dX3_make_4 : decode cX3_make 4 = .ok (.iload_n 1, 1) := by decide +kernel
theorem dX3_make_5 : decode cX3_make 5 = .ok (.baload, 1) := by decide +kernel
theorem dX3_make_6 : decode cX3_make 6 = .ok (.ifCond .eq 4, 3) := by decide +kernel
theorem dX3_make_9 : decode cX3_make 9 = .ok (.return_, 1) := by decide +kernel
theorem dX3_make_10 : decode cX3_make 10 = .ok (.aload_n 0, 1) := by decide +kernel
theorem dX3_make_11 : decode cX3_make 11 = .ok (.getfield 38, 3) := by decide +kernel
theorem dX3_make_14 : decode cX3_make 14 = .ok (.iload_n 1, 1) := by decide +kernel
theorem dX3_make_15 : decode cX3_make 15 = .ok (.aload_n 0, 1) := by decide +kernel
theorem dX3_make_16 : decode cX3_make 16 = .ok (.getfield 25, 3) := by decide +kernel
theorem dX3_make_19 : decode cX3_make 19 = .ok (.invokevirtual 42, 3) := by decide +kernel
theorem dX3_make_22 : decode cX3_make 22 = .ok (.istore_n 2, 1) := by decide +kernel
theorem dX3_make_23 : decode cX3_make 23 = .ok (.iconst 0, 1) := by decide +kernel
theorem dX3_make_24 : decode cX3_make 24 = .ok (.istore_n 3, 1) := by decide +kernel
theorem dX3_make_25 : decode cX3_make 25 = .ok (.iload_n 3, 1) := by decide +kernel
theorem dX3_make_26 : decode cX3_make 26 = .ok (.iload_n 2, 1) := by decide +kernel
theorem dX3_make_27 : decode cX3_make 27 = .ok (.if_icmp .ge 70, 3) := by decide +kernel
theorem dX3_make_97 : decode cX3_make 97 = .ok (.aload_n 0, 1) := by decide +kernel
theorem dX3_make_98 : decode cX3_make 98 = .ok (.getfield 15, 3) := by decide +kernel
theorem dX3_make_101 : decode cX3_make 101 = .ok (.iload_n 1, 1) := by decide +kernel
theorem dX3_make_102 : decode cX3_make 102 = .ok (.iload_n 2, 1) := by decide +kernel
theorem dX3_make_103 : decode cX3_make 103 = .ok (.iastore, 1) := by decide +kernel
theorem dX3_make_104 : decode cX3_make 104 = .ok (.aload_n 0, 1) := by decide +kernel
theorem dX3_make_105 : decode cX3_make 105 = .ok (.getfield 9, 3) := by decide +kernel
theorem dX3_make_108 : decode cX3_make 108 = .ok (.iload_n 1, 1) := by decide +kernel
theorem dX3_make_109 : decode cX3_make 109 = .ok (.iconst 1, 1) := by decide +kernel
theorem dX3_make_110 : decode cX3_make 110 = .ok (.bastore, 1) := by decide +kernel
theorem dX3_make_111 : decode cX3_make 111 = .ok (.return_, 1) := by decide +kernel
theorem dX3_dropAll_0 : decode cX3_dropAll 0 = .ok (.iconst 0, 1) := by decide +kernel
theorem dX3_dropAll_1 : decode cX3_dropAll 1 = .ok (.istore_n 1, 1) := by decide +kernel
theorem dX3_dropAll_2 : decode cX3_dropAll 2 = .ok (.iload_n 1, 1) := by decide +kernel
theorem dX3_dropAll_3 : decode cX3_dropAll 3 = .ok (.bipush 12, 2) := by decide +kernel
theorem dX3_dropAll_5 : decode cX3_dropAll 5 = .ok (.if_icmp .ge 16, 3) := by decide +kernel
theorem dX3_dropAll_8 : decode cX3_dropAll 8 = .ok (.aload_n 0, 1) := by decide +kernel
theorem dX3_dropAll_9 : decode cX3_dropAll 9 = .ok (.getfield 9, 3) := by decide +kernel
theorem dX3_dropAll_12 : decode cX3_dropAll 12 = .ok (.iload_n 1, 1) := by decide +kernel
theorem dX3_dropAll_13 : decode cX3_dropAll 13 = .ok (.iconst 0, 1) := by decide +kernel
theorem dX3_dropAll_14 : decode cX3_dropAll 14 = .ok (.bastore, 1) := by decide +kernel
theorem dX3_dropAll_15 : decode cX3_dropAll 15 = .ok (.iinc 1 1, 3) := by decide +kernel
theorem dX3_dropAll_18 : decode cX3_dropAll 18 = .ok (.goto (-16), 3) := by decide +kernel
theorem dX3_dropAll_21 : decode cX3_dropAll 21 = .ok (.return_, 1) := by decide +kernel
theorem dX4_init_0 : decode cX4_init 0 = .ok (.aload_n 0, 1) := by decide +kernel
theorem dX4_init_1 : decode cX4_init 1 = .ok (.invokespecial 3, 3) := by decide +kernel
theorem dX4_init_4 : decode cX4_init 4 = .ok (.aload_n 0, 1) := by decide +kernel
theorem dX4_init_5 : decode cX4_init 5 = .ok (.bipush 120, 2) := by decide +kernel
theorem dX4_init_7 : decode cX4_init 7 = .ok (.newarray .int, 2) := by decide +kernel
theorem dX4_init_9 : decode cX4_init 9 = .ok (.putfield 9, 3) := by decide +kernel
theorem dX4_init_12 : decode cX4_init 12 = .ok (.aload_n 0, 1) := by decide +kernel
theorem dX4_init_13 : decode cX4_init 13 = .ok (.bipush 120, 2) := by decide +kernel
theorem dX4_init_15 : decode cX4_init 15 = .ok (.newarray .int, 2) := by decide +kernel
theorem dX4_init_17 : decode cX4_init 17 = .ok (.putfield 15, 3) := by decide +kernel
theorem dX4_init_20 : decode cX4_init 20 = .ok (.aload_n 0, 1) := by decide +kernel
theorem dX4_init_21 : decode cX4_init 21 = .ok (.bipush 120, 2) := by decide +kernel
theorem dX4_init_23 : decode cX4_init 23 = .ok (.newarray .int, 2) := by decide +kernel
theorem dX4_init_25 : decode cX4_init 25 = .ok (.putfield 18, 3) := by decide +kernel
theorem dX4_init_28 : decode cX4_init 28 = .ok (.aload_n 0, 1) := by decide +kernel
theorem dX4_init_29 : decode cX4_init 29 = .ok (.bipush 120, 2) := by decide +kernel
theorem dX4_init_31 : decode cX4_init 31 = .ok (.newarray .int, 2) := by decide +kernel
theorem dX4_init_33 : decode cX4_init 33 = .ok (.putfield 21, 3) := by decide +kernel
theorem dX4_init_36 : decode cX4_init 36 = .ok (.aload_n 0, 1) := by decide +kernel
theorem dX4_init_37 : decode cX4_init 37 = .ok (.bipush 120, 2) := by decide +kernel
theorem dX4_init_39 : decode cX4_init 39 = .ok (.newarray .int, 2) := by decide +kernel
theorem dX4_init_41 : decode cX4_init 41 = .ok (.putfield 24, 3) := by decide +kernel
theorem dX4_init_44 : decode cX4_init 44 = .ok (.aload_n 0, 1) := by decide +kernel
theorem dX4_init_45 : decode cX4_init 45 = .ok (.aload_n 1, 1) := by decide +kernel
theorem dX4_init_46 : decode cX4_init 46 = .ok (.putfield 27, 3) := by decide +kernel
theorem dX4_init_49 : decode cX4_init 49 = .ok (.aload_n 0, 1) := by decide +kernel
theorem dX4_init_50 : decode cX4_init 50 = .ok (.aload_n 2, 1) := by decide +kernel
theorem dX4_init_51 : decode cX4_init 51 = .ok (.putfield 31, 3) := by decide +kernel
theorem dX4_init_54 : decode cX4_init 54 = .ok (.return_, 1) := by decide +kernel
theorem dX4_make_0 : decode cX4_make 0 = .ok (.aload_n 0, 1) := by decide +kernel
theorem dX4_make_1 : decode cX4_make 1 = .ok (.iconst 0, 1) := by decide +kernel
theorem dX4_make_2 : decode cX4_make 2 = .ok (.putfield 35, 3) := by decide +kernel
theorem dX4_make_5 : decode cX4_make 5 = .ok (.iconst 0, 1) := by decide +kernel
theorem dX4_make_6 : decode cX4_make 6 = .ok (.istore_n 1, 1) := by decide +kernel
theorem dX4_make_7 : decode cX4_make 7 = .ok (.iload_n 1, 1) := by decide +kernel
theorem dX4_make_8 : decode cX4_make 8 = .ok (.bipush 12, 2) := by decide +kernel
theorem dX4_make_10 : decode cX4_make 10 = .ok (.if_icmp .ge 75, 3) := by decide +kernel
theorem dX4_make_13 : decode cX4_make 13 = .ok (.iconst (-1), 1) := by decide +kernel
theorem dX4_make_14 : decode cX4_make 14 = .ok (.istore_n 2, 1) := by decide +kernel
theorem dX4_make_15 : decode cX4_make 15 = .ok (.aload_n 0, 1) := by decide +kernel
theorem dX4_make_16 : decode cX4_make 16 = .ok (.getfield 31, 3) := by decide +kernel
theorem dX4_make_19 : decode cX4_make 19 = .ok (.getfield 39, 3) := by decide +kernel
theorem dX4_make_22 : decode cX4_make 22 = .ok (.iload_n 1, 1) := by decide +kernel
theorem dX4_make_23 : decode cX4_make 23 = .ok (.iaload, 1) := by decide +kernel
theorem dX4_make_24 : decode cX4_make 24 = .ok (.iconst 1, 1) := by decide +kernel
theorem dX4_make_25 : decode cX4_make 25 = .ok (.isub, 1) := by decide +kernel
theorem dX4_make_26 : decode cX4_make 26 = .ok (.istore_n 3, 1) := by decide +kernel
theorem dX4_make_27 : decode cX4_make 27 = .ok (.iload_n 3, 1) := by decide +kernel
theorem dX4_make_28 : decode cX4_make 28 = .ok (.ifCond .lt 51, 3) := by decide +kernel
theorem dX4_make_79 : decode cX4_make 79 = .ok (.iinc 1 1, 3) := by decide +kernel
theorem dX4_make_82 : decode cX4_make 82 = .ok (.goto (-75), 3) := by decide +kernel
theorem dX4_make_85 : decode cX4_make 85 = .ok (.aload_n 0, 1) := by decide +kernel
theorem dX4_make_86 : decode cX4_make 86 = .ok (.iconst 1, 1) := by decide +kernel
theorem dX4_make_87 : decode cX4_make 87 = .ok (.putfield 55, 3) := by decide +kernel
theorem dX4_make_90 : decode cX4_make 90 = .ok (.return_, 1) := by decide +kernel
theorem dX5_init_0 : decode cX5_init 0 = .ok (.aload_n 0, 1) := by decide +kernel
theorem dX5_init_1 : decode cX5_init 1 = .ok (.invokespecial 3, 3) := by decide +kernel
theorem dX5_init_4 : decode cX5_init 4 = .ok (.aload_n 0, 1) := by decide +kernel
theorem dX5_init_5 : decode cX5_init 5 = .ok (.bipush 12, 2) := by decide +kernel
theorem dX5_init_7 : decode cX5_init 7 = .ok (.newarray .int, 2) := by decide +kernel
theorem dX5_init_9 : decode cX5_init 9 = .ok (.putfield 9, 3) := by decide +kernel
theorem dX5_init_12 : decode cX5_init 12 = .ok (.aload_n 0, 1) := by decide +kernel
theorem dX5_init_13 : decode cX5_init 13 = .ok (.bipush 120, 2) := by decide +kernel
theorem dX5_init_15 : decode cX5_init 15 = .ok (.newarray .int, 2) := by decide +kernel
theorem dX5_init_17 : decode cX5_init 17 = .ok (.putfield 15, 3) := by decide +kernel
theorem dX5_init_20 : decode cX5_init 20 = .ok (.aload_n 0, 1) := by decide +kernel
theorem dX5_init_21 : decode cX5_init 21 = .ok (.bipush 120, 2) := by decide +kernel
theorem dX5_init_23 : decode cX5_init 23 = .ok (.newarray .int, 2) := by decide +kernel
theorem dX5_init_25 : decode cX5_init 25 = .ok (.putfield 18, 3) := by decide +kernel
theorem dX5_init_28 : decode cX5_init 28 = .ok (.aload_n 0, 1) := by decide +kernel
theorem dX5_init_29 : decode cX5_init 29 = .ok (.bipush 120, 2) := by decide +kernel
theorem dX5_init_31 : decode cX5_init 31 = .ok (.newarray .int, 2) := by decide +kernel
theorem dX5_init_33 : decode cX5_init 33 = .ok (.putfield 21, 3) := by decide +kernel
theorem dX5_init_36 : decode cX5_init 36 = .ok (.aload_n 0, 1) := by decide +kernel
theorem dX5_init_37 : decode cX5_init 37 = .ok (.bipush 120, 2) := by decide +kernel
theorem dX5_init_39 : decode cX5_init 39 = .ok (.newarray .int, 2) := by decide +kernel
theorem dX5_init_41 : decode cX5_init 41 = .ok (.putfield 24, 3) := by decide +kernel
theorem dX5_init_44 : decode cX5_init 44 = .ok (.aload_n 0, 1) := by decide +kernel
theorem dX5_init_45 : decode cX5_init 45 = .ok (.bipush 120, 2) := by decide +kernel
theorem dX5_init_47 : decode cX5_init 47 = .ok (.newarray .int, 2) := by decide +kernel
theorem dX5_init_49 : decode cX5_init 49 = .ok (.putfield 27, 3) := by decide +kernel
theorem dX5_init_52 : decode cX5_init 52 = .ok (.aload_n 0, 1) := by decide +kernel
theorem dX5_init_53 : decode cX5_init 53 = .ok (.bipush 120, 2) := by decide +kernel
theorem dX5_init_55 : decode cX5_init 55 = .ok (.newarray .int, 2) := by decide +kernel
theorem dX5_init_57 : decode cX5_init 57 = .ok (.putfield 30, 3) := by decide +kernel
theorem dX5_init_60 : decode cX5_init 60 = .ok (.return_, 1) := by decide +kernel
set_option maxRecDepth 20000 in
theorem ggX5_add_X7_slot : GoodIn wsX5_add wsX7_slot := goodIn_r _ [10] rfl (by decide +kernel)
set_option maxRecDepth 20000 in
theorem gX5_add_X7_slot_n33 : GoodIn wsX5_add (wsX7_slot) := ggX5_add_X7_slot
set_option maxRecDepth 20000 in
theorem ggX5_add_X5_readsOf : GoodIn wsX5_add wsX5_readsOf := goodIn_r _ [14] rfl (by decide +kernel)
set_option maxRecDepth 20000 in
theorem gX5_add_X5_readsOf : GoodIn wsX5_add (va_wsS RX5 43 yX5_readsOf wsX5_readsOf) := goodIn_app (goodIn_of _ (by decide +kernel)) ggX5_add_X5_readsOf
set_option maxRecDepth 20000 in
theorem ggX5_add_X5_writesOf : GoodIn wsX5_add wsX5_writesOf := goodIn_r _ [17] rfl (by decide +kernel)
set_option maxRecDepth 20000 in
theorem gX5_add_X5_writesOf : GoodIn wsX5_add (va_wsS RX5 47 yX5_writesOf wsX5_writesOf) := goodIn_app (goodIn_of _ (by decide +kernel)) ggX5_add_X5_writesOf
theorem dX5_add_0 : decode cX5_add 0 = .ok (.iload_n 1, 1) := by decide +kernel
theorem dX5_add_1 : decode cX5_add 1 = .ok (.aload_n 0, 1) := by decide +kernel
theorem dX5_add_2 : decode cX5_add 2 = .ok (.getfield 9, 3) := by decide +kernel
theorem dX5_add_5 : decode cX5_add 5 = .ok (.iload_n 1, 1) := by decide +kernel
theorem dX5_add_6 : decode cX5_add 6 = .ok (.iaload, 1) := by decide +kernel
theorem dX5_add_7 : decode cX5_add 7 = .ok (.invokestatic 33, 3) := by decide +kernel
theorem dX5_add_10 : decode cX5_add 10 = .ok (.istore 6, 2) := by decide +kernel
theorem dX5_add_12 : decode cX5_add 12 = .ok (.aload_n 0, 1) := by decide +kernel
theorem dX5_add_13 : decode cX5_add 13 = .ok (.getfield 15, 3) := by decide +kernel
theorem dX5_add_16 : decode cX5_add 16 = .ok (.iload 6, 2) := by decide +kernel
theorem dX5_add_18 : decode cX5_add 18 = .ok (.iload_n 2, 1) := by decide +kernel
theorem dX5_add_19 : decode cX5_add 19 = .ok (.iastore, 1) := by decide +kernel
theorem dX5_add_20 : decode cX5_add 20 = .ok (.aload_n 0, 1) := by decide +kernel
theorem dX5_add_21 : decode cX5_add 21 = .ok (.getfield 18, 3) := by decide +kernel
theorem dX5_add_24 : decode cX5_add 24 = .ok (.iload 6, 2) := by decide +kernel
theorem dX5_add_26 : decode cX5_add 26 = .ok (.getstatic 37, 3) := by decide +kernel
theorem dX5_add_29 : decode cX5_add 29 = .ok (.iload_n 2, 1) := by decide +kernel
theorem dX5_add_30 : decode cX5_add 30 = .ok (.iaload, 1) := by decide +kernel
theorem dX5_add_31 : decode cX5_add 31 = .ok (.ifCond .ne 7, 3) := by decide +kernel
theorem dX5_add_34 : decode cX5_add 34 = .ok (.iconst (-1), 1) := by decide +kernel
theorem dX5_add_35 : decode cX5_add 35 = .ok (.goto 4, 3) := by decide +kernel
theorem dX5_add_38 : decode cX5_add 38 = .ok (.iload_n 3, 1) := by decide +kernel
theorem dX5_add_39 : decode cX5_add 39 = .ok (.iastore, 1) := by decide +kernel
theorem dX5_add_40 : decode cX5_add 40 = .ok (.aload_n 0, 1) := by decide +kernel
theorem dX5_add_41 : decode cX5_add 41 = .ok (.getfield 21, 3) := by decide +kernel
theorem dX5_add_44 : decode cX5_add 44 = .ok (.iload 6, 2) := by decide +kernel
theorem dX5_add_46 : decode cX5_add 46 = .ok (.iload 4, 2) := by decide +kernel
theorem dX5_add_48 : decode cX5_add 48 = .ok (.iastore, 1) := by decide +kernel
theorem dX5_add_49 : decode cX5_add 49 = .ok (.aload_n 0, 1) := by decide +kernel
theorem dX5_add_50 : decode cX5_add 50 = .ok (.getfield 24, 3) := by decide +kernel
theorem dX5_add_53 : decode cX5_add 53 = .ok (.iload 6, 2) := by decide +kernel
theorem dX5_add_55 : decode cX5_add 55 = .ok (.getstatic 40, 3) := by decide +kernel
theorem dX5_add_58 : decode cX5_add 58 = .ok (.iload_n 2, 1) := by decide +kernel
theorem dX5_add_59 : decode cX5_add 59 = .ok (.iaload, 1) := by decide +kernel
theorem dX5_add_60 : decode cX5_add 60 = .ok (.ifCond .ne 7, 3) := by decide +kernel
theorem dX5_add_63 : decode cX5_add 63 = .ok (.iconst (-1), 1) := by decide +kernel
theorem dX5_add_64 : decode cX5_add 64 = .ok (.goto 5, 3) := by decide +kernel
theorem dX5_add_67 : decode cX5_add 67 = .ok (.iload 5, 2) := by decide +kernel
theorem dX5_add_69 : decode cX5_add 69 = .ok (.iastore, 1) := by decide +kernel
theorem dX5_add_70 : decode cX5_add 70 = .ok (.aload_n 0, 1) := by decide +kernel
theorem dX5_add_71 : decode cX5_add 71 = .ok (.getfield 27, 3) := by decide +kernel
theorem dX5_add_74 : decode cX5_add 74 = .ok (.iload 6, 2) := by decide +kernel
theorem dX5_add_76 : decode cX5_add 76 = .ok (.iload_n 2, 1) := by decide +kernel
theorem dX5_add_77 : decode cX5_add 77 = .ok (.iload 4, 2) := by decide +kernel
theorem dX5_add_79 : decode cX5_add 79 = .ok (.iload 5, 2) := by decide +kernel
theorem dX5_add_81 : decode cX5_add 81 = .ok (.invokestatic 43, 3) := by decide +kernel
theorem dX5_add_84 : decode cX5_add 84 = .ok (.iastore, 1) := by decide +kernel
theorem dX5_add_85 : decode cX5_add 85 = .ok (.aload_n 0, 1) := by decide +kernel
theorem dX5_add_86 : decode cX5_add 86 = .ok (.getfield 30, 3) := by decide +kernel
theorem dX5_add_89 : decode cX5_add 89 = .ok (.iload 6, 2) := by decide +kernel
theorem dX5_add_91 : decode cX5_add 91 = .ok (.iload_n 2, 1) := by decide +kernel
theorem dX5_add_92 : decode cX5_add 92 = .ok (.iload_n 3, 1) := by decide +kernel
theorem dX5_add_93 : decode cX5_add 93 = .ok (.invokestatic 47, 3) := by decide +kernel
theorem dX5_add_96 : decode cX5_add 96 = .ok (.iastore, 1) := by decide +kernel
theorem dX5_add_97 : decode cX5_add 97 = .ok (.aload_n 0, 1) := by decide +kernel
theorem dX5_add_98 : decode cX5_add 98 = .ok (.getfield 9, 3) := by decide +kernel
theorem dX5_add_101 : decode cX5_add 101 = .ok (.iload_n 1, 1) := by decide +kernel
theorem dX5_add_102 : decode cX5_add 102 = .ok (.dup2, 1) := by decide +kernel
theorem dX5_add_103 : decode cX5_add 103 = .ok (.iaload, 1) := by decide +kernel
theorem dX5_add_104 : decode cX5_add 104 = .ok (.iconst 1, 1) := by decide +kernel
theorem dX5_add_105 : decode cX5_add 105 = .ok (.iadd, 1) := by decide +kernel
theorem dX5_add_106 : decode cX5_add 106 = .ok (.iastore, 1) := by decide +kernel
theorem dX5_add_107 : decode cX5_add 107 = .ok (.return_, 1) := by decide +kernel
theorem dX5_readsOf_0 : decode cX5_readsOf 0 = .ok (.iconst 0, 1) := by decide +kernel
theorem dX5_readsOf_1 : decode cX5_readsOf 1 = .ok (.istore_n 3, 1) := by decide +kernel
theorem dX5_readsOf_2 : decode cX5_readsOf 2 = .ok (.getstatic 50, 3) := by decide +kernel
theorem dX5_readsOf_5 : decode cX5_readsOf 5 = .ok (.iload_n 0, 1) := by decide +kernel
theorem dX5_readsOf_6 : decode cX5_readsOf 6 = .ok (.iaload, 1) := by decide +kernel
theorem dX5_readsOf_7 : decode cX5_readsOf 7 = .ok (.iconst 1, 1) := by decide +kernel
theorem dX5_readsOf_8 : decode cX5_readsOf 8 = .ok (.if_icmp .ne 9, 3) := by decide +kernel
theorem dX5_readsOf_11 : decode cX5_readsOf 11 = .ok (.iload_n 3, 1) := by decide +kernel
theorem dX5_readsOf_12 : decode cX5_readsOf 12 = .ok (.iconst 1, 1) := by decide +kernel
theorem dX5_readsOf_13 : decode cX5_readsOf 13 = .ok (.iload_n 1, 1) := by decide +kernel
theorem dX5_readsOf_14 : decode cX5_readsOf 14 = .ok (.ishl, 1) := by decide +kernel
theorem dX5_readsOf_15 : decode cX5_readsOf 15 = .ok (.ior, 1) := by decide +kernel
theorem dX5_readsOf_16 : decode cX5_readsOf 16 = .ok (.istore_n 3, 1) := by decide +kernel
theorem dX5_readsOf_17 : decode cX5_readsOf 17 = .ok (.getstatic 40, 3) := by decide +kernel
theorem dX5_readsOf_20 : decode cX5_readsOf 20 = .ok (.iload_n 0, 1) := by decide +kernel
theorem dX5_readsOf_21 : decode cX5_readsOf 21 = .ok (.iaload, 1) := by decide +kernel
theorem dX5_readsOf_22 : decode cX5_readsOf 22 = .ok (.iconst 1, 1) := by decide +kernel
theorem dX5_readsOf_23 : decode cX5_readsOf 23 = .ok (.if_icmp .ne 9, 3) := by decide +kernel
theorem dX5_readsOf_26 : decode cX5_readsOf 26 = .ok (.iload_n 3, 1) := by decide +kernel
theorem dX5_readsOf_27 : decode cX5_readsOf 27 = .ok (.iconst 1, 1) := by decide +kernel
theorem dX5_readsOf_28 : decode cX5_readsOf 28 = .ok (.iload_n 2, 1) := by decide +kernel
theorem dX5_readsOf_29 : decode cX5_readsOf 29 = .ok (.ishl, 1) := by decide +kernel
theorem dX5_readsOf_30 : decode cX5_readsOf 30 = .ok (.ior, 1) := by decide +kernel
theorem dX5_readsOf_31 : decode cX5_readsOf 31 = .ok (.istore_n 3, 1) := by decide +kernel
theorem dX5_readsOf_32 : decode cX5_readsOf 32 = .ok (.iload_n 0, 1) := by decide +kernel
theorem dX5_readsOf_33 : decode cX5_readsOf 33 = .ok (.bipush 7, 2) := by decide +kernel
theorem dX5_readsOf_35 : decode cX5_readsOf 35 = .ok (.if_icmp .ne 9, 3) := by decide +kernel
theorem dX5_readsOf_38 : decode cX5_readsOf 38 = .ok (.iload_n 3, 1) := by decide +kernel
theorem dX5_readsOf_39 : decode cX5_readsOf 39 = .ok (.sipush 1024, 3) := by decide +kernel
theorem dX5_readsOf_42 : decode cX5_readsOf 42 = .ok (.ior, 1) := by decide +kernel
theorem dX5_readsOf_43 : decode cX5_readsOf 43 = .ok (.istore_n 3, 1) := by decide +kernel
theorem dX5_readsOf_44 : decode cX5_readsOf 44 = .ok (.iload_n 0, 1) := by decide +kernel
theorem dX5_readsOf_45 : decode cX5_readsOf 45 = .ok (.bipush 9, 2) := by decide +kernel
theorem dX5_readsOf_47 : decode cX5_readsOf 47 = .ok (.if_icmp .eq 9, 3) := by decide +kernel
theorem dX5_readsOf_50 : decode cX5_readsOf 50 = .ok (.iload_n 0, 1) := by decide +kernel
theorem dX5_readsOf_51 : decode cX5_readsOf 51 = .ok (.bipush 10, 2) := by decide +kernel
theorem dX5_readsOf_53 : decode cX5_readsOf 53 = .ok (.if_icmp .ne 12, 3) := by decide +kernel
theorem dX5_readsOf_56 : decode cX5_readsOf 56 = .ok (.iload_n 3, 1) := by decide +kernel
theorem dX5_readsOf_57 : decode cX5_readsOf 57 = .ok (.iconst 1, 1) := by decide +kernel
theorem dX5_readsOf_58 : decode cX5_readsOf 58 = .ok (.bipush 8, 2) := by decide +kernel
theorem dX5_readsOf_60 : decode cX5_readsOf 60 = .ok (.iload_n 1, 1) := by decide +kernel
theorem dX5_readsOf_61 : decode cX5_readsOf 61 = .ok (.iadd, 1) := by decide +kernel
theorem dX5_readsOf_62 : decode cX5_readsOf 62 = .ok (.ishl, 1) := by decide +kernel
theorem dX5_readsOf_63 : decode cX5_readsOf 63 = .ok (.ior, 1) := by decide +kernel
theorem dX5_readsOf_64 : decode cX5_readsOf 64 = .ok (.istore_n 3, 1) := by decide +kernel
theorem dX5_readsOf_65 : decode cX5_readsOf 65 = .ok (.iload_n 3, 1) := by decide +kernel
theorem dX5_readsOf_66 : decode cX5_readsOf 66 = .ok (.ireturn, 1) := by decide +kernel
theorem dX5_writesOf_0 : decode cX5_writesOf 0 = .ok (.iconst 0, 1) := by decide +kernel
theorem dX5_writesOf_1 : decode cX5_writesOf 1 = .ok (.istore_n 2, 1) := by decide +kernel
theorem dX5_writesOf_2 : decode cX5_writesOf 2 = .ok (.getstatic 37, 3) := by decide +kernel
theorem dX5_writesOf_5 : decode cX5_writesOf 5 = .ok (.iload_n 0, 1) := by decide +kernel
theorem dX5_writesOf_6 : decode cX5_writesOf 6 = .ok (.iaload, 1) := by decide +kernel
theorem dX5_writesOf_7 : decode cX5_writesOf 7 = .ok (.iconst 1, 1) := by decide +kernel
theorem dX5_writesOf_8 : decode cX5_writesOf 8 = .ok (.if_icmp .ne 9, 3) := by decide +kernel
theorem dX5_writesOf_11 : decode cX5_writesOf 11 = .ok (.iload_n 2, 1) := by decide +kernel
theorem dX5_writesOf_12 : decode cX5_writesOf 12 = .ok (.iconst 1, 1) := by decide +kernel
theorem dX5_writesOf_13 : decode cX5_writesOf 13 = .ok (.iload_n 1, 1) := by decide +kernel
theorem dX5_writesOf_14 : decode cX5_writesOf 14 = .ok (.ishl, 1) := by decide +kernel
theorem dX5_writesOf_15 : decode cX5_writesOf 15 = .ok (.ior, 1) := by decide +kernel
theorem dX5_writesOf_16 : decode cX5_writesOf 16 = .ok (.istore_n 2, 1) := by decide +kernel
theorem dX5_writesOf_17 : decode cX5_writesOf 17 = .ok (.getstatic 53, 3) := by decide +kernel
theorem dX5_writesOf_20 : decode cX5_writesOf 20 = .ok (.iload_n 0, 1) := by decide +kernel
theorem dX5_writesOf_21 : decode cX5_writesOf 21 = .ok (.iaload, 1) := by decide +kernel
theorem dX5_writesOf_22 : decode cX5_writesOf 22 = .ok (.iconst 1, 1) := by decide +kernel
theorem dX5_writesOf_23 : decode cX5_writesOf 23 = .ok (.if_icmp .ne 9, 3) := by decide +kernel
theorem dX5_writesOf_26 : decode cX5_writesOf 26 = .ok (.iload_n 2, 1) := by decide +kernel
theorem dX5_writesOf_27 : decode cX5_writesOf 27 = .ok (.sipush 768, 3) := by decide +kernel
theorem dX5_writesOf_30 : decode cX5_writesOf 30 = .ok (.ior, 1) := by decide +kernel
theorem dX5_writesOf_31 : decode cX5_writesOf 31 = .ok (.istore_n 2, 1) := by decide +kernel
theorem dX5_writesOf_32 : decode cX5_writesOf 32 = .ok (.iload_n 0, 1) := by decide +kernel
theorem dX5_writesOf_33 : decode cX5_writesOf 33 = .ok (.bipush 8, 2) := by decide +kernel
theorem dX5_writesOf_35 : decode cX5_writesOf 35 = .ok (.if_icmp .ne 9, 3) := by decide +kernel
theorem dX5_writesOf_38 : decode cX5_writesOf 38 = .ok (.iload_n 2, 1) := by decide +kernel
theorem dX5_writesOf_39 : decode cX5_writesOf 39 = .ok (.sipush 1024, 3) := by decide +kernel
theorem dX5_writesOf_42 : decode cX5_writesOf 42 = .ok (.ior, 1) := by decide +kernel
theorem dX5_writesOf_43 : decode cX5_writesOf 43 = .ok (.istore_n 2, 1) := by decide +kernel
theorem dX5_writesOf_44 : decode cX5_writesOf 44 = .ok (.iload_n 2, 1) := by decide +kernel
theorem dX5_writesOf_45 : decode cX5_writesOf 45 = .ok (.ireturn, 1) := by decide +kernel
theorem dX6_init_0 : decode cX6_init 0 = .ok (.aload_n 0, 1) := by decide +kernel
theorem dX6_init_1 : decode cX6_init 1 = .ok (.invokespecial 3, 3) := by decide +kernel
theorem dX6_init_4 : decode cX6_init 4 = .ok (.aload_n 0, 1) := by decide +kernel
theorem dX6_init_5 : decode cX6_init 5 = .ok (.bipush 10, 2) := by decide +kernel
theorem dX6_init_7 : decode cX6_init 7 = .ok (.newarray .int, 2) := by decide +kernel
theorem dX6_init_9 : decode cX6_init 9 = .ok (.putfield 9, 3) := by decide +kernel
theorem dX6_init_12 : decode cX6_init 12 = .ok (.aload_n 0, 1) := by decide +kernel
theorem dX6_init_13 : decode cX6_init 13 = .ok (.bipush 10, 2) := by decide +kernel
theorem dX6_init_15 : decode cX6_init 15 = .ok (.newarray .int, 2) := by decide +kernel
theorem dX6_init_17 : decode cX6_init 17 = .ok (.putfield 15, 3) := by decide +kernel
theorem dX6_init_20 : decode cX6_init 20 = .ok (.aload_n 0, 1) := by decide +kernel
theorem dX6_init_21 : decode cX6_init 21 = .ok (.bipush 10, 2) := by decide +kernel
theorem dX6_init_23 : decode cX6_init 23 = .ok (.newarray .int, 2) := by decide +kernel
theorem dX6_init_25 : decode cX6_init 25 = .ok (.putfield 18, 3) := by decide +kernel
theorem dX6_init_28 : decode cX6_init 28 = .ok (.aload_n 0, 1) := by decide +kernel
theorem dX6_init_29 : decode cX6_init 29 = .ok (.bipush 10, 2) := by decide +kernel
theorem dX6_init_31 : decode cX6_init 31 = .ok (.newarray .int, 2) := by decide +kernel
theorem dX6_init_33 : decode cX6_init 33 = .ok (.putfield 21, 3) := by decide +kernel
theorem dX6_init_36 : decode cX6_init 36 = .ok (.aload_n 0, 1) := by decide +kernel
theorem dX6_init_37 : decode cX6_init 37 = .ok (.iconst 5, 1) := by decide +kernel
theorem dX6_init_38 : decode cX6_init 38 = .ok (.newarray .int, 2) := by decide +kernel
theorem dX6_init_40 : decode cX6_init 40 = .ok (.putfield 24, 3) := by decide +kernel
theorem dX6_init_43 : decode cX6_init 43 = .ok (.aload_n 0, 1) := by decide +kernel
theorem dX6_init_44 : decode cX6_init 44 = .ok (.iconst 5, 1) := by decide +kernel
theorem dX6_init_45 : decode cX6_init 45 = .ok (.newarray .int, 2) := by decide +kernel
theorem dX6_init_47 : decode cX6_init 47 = .ok (.putfield 27, 3) := by decide +kernel
theorem dX6_init_50 : decode cX6_init 50 = .ok (.aload_n 0, 1) := by decide +kernel
theorem dX6_init_51 : decode cX6_init 51 = .ok (.sipush 1024, 3) := by decide +kernel
theorem dX6_init_54 : decode cX6_init 54 = .ok (.newarray .byte, 2) := by decide +kernel
theorem dX6_init_56 : decode cX6_init 56 = .ok (.putfield 30, 3) := by decide +kernel
theorem dX6_init_59 : decode cX6_init 59 = .ok (.aload_n 0, 1) := by decide +kernel
theorem dX6_init_60 : decode cX6_init 60 = .ok (.aload_n 1, 1) := by decide +kernel
theorem dX6_init_61 : decode cX6_init 61 = .ok (.putfield 34, 3) := by decide +kernel
theorem dX6_init_64 : decode cX6_init 64 = .ok (.return_, 1) := by decide +kernel
set_option maxRecDepth 20000 in
theorem ggX6_solve_X6_learnParts : GoodIn wsX6_solve wsX6_learnParts := goodIn_r _ [10, 11, 12, 3, 1, 13, 14, 15, 16, 17, 18, 19, 20, 21, 22, 23, 24, 25, 76, 77, 78, 79, 80, 81, 82, 83, 84, 85, 86, 87, 88, 89, 90, 91, 92] rfl (by decide +kernel)
set_option maxRecDepth 20000 in
theorem gX6_solve_X6_learnParts : GoodIn wsX6_solve (wsV RX6 47 RX6 yX6_learnParts wsX6_learnParts) := goodIn_app (goodIn_of _ (by decide +kernel)) ggX6_solve_X6_learnParts
set_option maxRecDepth 20000 in
theorem ggX6_solve_X6_learnNeeds : GoodIn wsX6_solve wsX6_learnNeeds := goodIn_r _ [29, 30, 31, 32, 3, 1, 33, 34, 35, 36, 13, 14, 15, 16, 17, 18, 19, 37, 38, 39, 23, 40, 41, 42, 25, 43, 44, 45, 46, 76, 77, 78, 79, 80, 81, 82, 83, 84, 85, 86, 87, 88, 89, 90, 91, 92] rfl (by decide +kernel)
set_option maxRecDepth 20000 in
theorem gX6_solve_X6_learnNeeds : GoodIn wsX6_solve (wsV RX6 51 RX6 yX6_learnNeeds wsX6_learnNeeds) := goodIn_app (goodIn_of _ (by decide +kernel)) ggX6_solve_X6_learnNeeds
set_option maxRecDepth 20000 in
theorem ggX6_solve_X6_fill : GoodIn wsX6_solve wsX6_fill := goodIn_r _ [49, 3, 5, 4, 50, 51, 52, 53, 9, 54, 11, 12, 32, 55, 56, 57, 58, 59, 60, 61, 62, 18, 63, 64, 65, 66, 67, 30, 31, 68, 69, 70, 71, 72, 73, 74, 75, 47, 48, 76, 77, 78, 79, 80, 81, 82, 83, 84, 85] rfl (by decide +kernel)
set_option maxRecDepth 20000 in
theorem gX6_solve_X6_fill : GoodIn wsX6_solve (va_wsS RX6 58 yX6_fill wsX6_fill) := goodIn_app (goodIn_of _ (by decide +kernel)) ggX6_solve_X6_fill
theorem dX6_solve_0 : decode cX6_solve 0 = .ok (.aload_n 0, 1) := by decide +kernel
theorem dX6_solve_1 : decode cX6_solve 1 = .ok (.aload_n 0, 1) := by decide +kernel
theorem dX6_solve_2 : decode cX6_solve 2 = .ok (.getfield 34, 3) := by decide +kernel
theorem dX6_solve_5 : decode cX6_solve 5 = .ok (.getfield 38, 3) := by decide +kernel
theorem dX6_solve_8 : decode cX6_solve 8 = .ok (.iload_n 1, 1) := by decide +kernel
theorem dX6_solve_9 : decode cX6_solve 9 = .ok (.iaload, 1) := by decide +kernel
theorem dX6_solve_10 : decode cX6_solve 10 = .ok (.putfield 43, 3) := by decide +kernel
theorem dX6_solve_13 : decode cX6_solve 13 = .ok (.aload_n 0, 1) := by decide +kernel
theorem dX6_solve_14 : decode cX6_solve 14 = .ok (.iload_n 1, 1) := by decide +kernel
theorem dX6_solve_15 : decode cX6_solve 15 = .ok (.iload_n 2, 1) := by decide +kernel
theorem dX6_solve_16 : decode cX6_solve 16 = .ok (.invokevirtual 47, 3) := by decide +kernel
theorem dX6_solve_19 : decode cX6_solve 19 = .ok (.aload_n 0, 1) := by decide +kernel
theorem dX6_solve_20 : decode cX6_solve 20 = .ok (.iload_n 1, 1) := by decide +kernel
theorem dX6_solve_21 : decode cX6_solve 21 = .ok (.invokevirtual 51, 3) := by decide +kernel
theorem dX6_solve_24 : decode cX6_solve 24 = .ok (.iconst 0, 1) := by decide +kernel
theorem dX6_solve_25 : decode cX6_solve 25 = .ok (.istore_n 3, 1) := by decide +kernel
theorem dX6_solve_26 : decode cX6_solve 26 = .ok (.iload_n 3, 1) := by decide +kernel
theorem dX6_solve_27 : decode cX6_solve 27 = .ok (.iconst 1, 1) := by decide +kernel
theorem dX6_solve_28 : decode cX6_solve 28 = .ok (.aload_n 0, 1) := by decide +kernel
theorem dX6_solve_29 : decode cX6_solve 29 = .ok (.getfield 43, 3) := by decide +kernel
theorem dX6_solve_32 : decode cX6_solve 32 = .ok (.ishl, 1) := by decide +kernel
theorem dX6_solve_33 : decode cX6_solve 33 = .ok (.if_icmp .ge 16, 3) := by decide +kernel
theorem dX6_solve_36 : decode cX6_solve 36 = .ok (.aload_n 0, 1) := by decide +kernel
theorem dX6_solve_37 : decode cX6_solve 37 = .ok (.getfield 30, 3) := by decide +kernel
theorem dX6_solve_40 : decode cX6_solve 40 = .ok (.iload_n 3, 1) := by decide +kernel
theorem dX6_solve_41 : decode cX6_solve 41 = .ok (.iconst 0, 1) := by decide +kernel
theorem dX6_solve_42 : decode cX6_solve 42 = .ok (.bastore, 1) := by decide +kernel
theorem dX6_solve_43 : decode cX6_solve 43 = .ok (.iinc 3 1, 3) := by decide +kernel
theorem dX6_solve_46 : decode cX6_solve 46 = .ok (.goto (-20), 3) := by decide +kernel
theorem dX6_solve_49 : decode cX6_solve 49 = .ok (.aload_n 0, 1) := by decide +kernel
theorem dX6_solve_50 : decode cX6_solve 50 = .ok (.iconst 0, 1) := by decide +kernel
theorem dX6_solve_51 : decode cX6_solve 51 = .ok (.putfield 55, 3) := by decide +kernel
theorem dX6_solve_54 : decode cX6_solve 54 = .ok (.aload_n 0, 1) := by decide +kernel
theorem dX6_solve_55 : decode cX6_solve 55 = .ok (.iconst 0, 1) := by decide +kernel
theorem dX6_solve_56 : decode cX6_solve 56 = .ok (.iconst 0, 1) := by decide +kernel
theorem dX6_solve_57 : decode cX6_solve 57 = .ok (.invokestatic 58, 3) := by decide +kernel
theorem dX6_solve_60 : decode cX6_solve 60 = .ok (.ifCond .ne 27, 3) := by decide +kernel
theorem dX6_solve_87 : decode cX6_solve 87 = .ok (.aload_n 0, 1) := by decide +kernel
theorem dX6_solve_88 : decode cX6_solve 88 = .ok (.getfield 55, 3) := by decide +kernel
theorem dX6_solve_91 : decode cX6_solve 91 = .ok (.ireturn, 1) := by decide +kernel
set_option maxRecDepth 20000 in
theorem ggX6_learnParts_J7_fill_53178 : GoodIn wsX6_learnParts wsJ7_fill_53178 := goodIn_r _ [8] rfl (by decide +kernel)
set_option maxRecDepth 20000 in
theorem gX6_learnParts_J7_fill_53178 : GoodIn wsX6_learnParts (va_wsS RX6 62 yJ7_fill_53178 wsJ7_fill_53178) := goodIn_app (goodIn_of _ (by decide +kernel)) ggX6_learnParts_J7_fill_53178
theorem dX6_learnParts_0 : decode cX6_learnParts 0 = .ok (.aload_n 0, 1) := by decide +kernel
theorem dX6_learnParts_1 : decode cX6_learnParts 1 = .ok (.getfield 24, 3) := by decide +kernel
theorem dX6_learnParts_4 : decode cX6_learnParts 4 = .ok (.iconst 0, 1) := by decide +kernel
theorem dX6_learnParts_5 : decode cX6_learnParts 5 = .ok (.invokestatic 62, 3) := by decide +kernel
theorem dX6_learnParts_8 : decode cX6_learnParts 8 = .ok (.aload_n 0, 1) := by decide +kernel
theorem dX6_learnParts_9 : decode cX6_learnParts 9 = .ok (.getfield 27, 3) := by decide +kernel
theorem dX6_learnParts_12 : decode cX6_learnParts 12 = .ok (.iconst 1, 1) := by decide +kernel
theorem dX6_learnParts_13 : decode cX6_learnParts 13 = .ok (.invokestatic 62, 3) := by decide +kernel
theorem dX6_learnParts_16 : decode cX6_learnParts 16 = .ok (.aload_n 0, 1) := by decide +kernel
theorem dX6_learnParts_17 : decode cX6_learnParts 17 = .ok (.getfield 27, 3) := by decide +kernel
theorem dX6_learnParts_20 : decode cX6_learnParts 20 = .ok (.iconst 0, 1) := by decide +kernel
theorem dX6_learnParts_21 : decode cX6_learnParts 21 = .ok (.iload_n 2, 1) := by decide +kernel
theorem dX6_learnParts_22 : decode cX6_learnParts 22 = .ok (.iastore, 1) := by decide +kernel
theorem dX6_learnParts_23 : decode cX6_learnParts 23 = .ok (.iconst 0, 1) := by decide +kernel
theorem dX6_learnParts_24 : decode cX6_learnParts 24 = .ok (.istore_n 3, 1) := by decide +kernel
theorem dX6_learnParts_25 : decode cX6_learnParts 25 = .ok (.iload_n 3, 1) := by decide +kernel
theorem dX6_learnParts_26 : decode cX6_learnParts 26 = .ok (.aload_n 0, 1) := by decide +kernel
theorem dX6_learnParts_27 : decode cX6_learnParts 27 = .ok (.getfield 43, 3) := by decide +kernel
theorem dX6_learnParts_30 : decode cX6_learnParts 30 = .ok (.if_icmp .ge 32, 3) := by decide +kernel
theorem dX6_learnParts_62 : decode cX6_learnParts 62 = .ok (.return_, 1) := by decide +kernel
set_option maxRecDepth 20000 in
theorem ggX6_learnNeeds_J7_fill_53178 : GoodIn wsX6_learnNeeds wsJ7_fill_53178 := goodIn_r _ [13] rfl (by decide +kernel)
set_option maxRecDepth 20000 in
theorem gX6_learnNeeds_J7_fill_53178 : GoodIn wsX6_learnNeeds (va_wsS RX6 62 yJ7_fill_53178 wsJ7_fill_53178) := goodIn_app (goodIn_of _ (by decide +kernel)) ggX6_learnNeeds_J7_fill_53178
theorem dX6_learnNeeds_0 : decode cX6_learnNeeds 0 = .ok (.aload_n 0, 1) := by decide +kernel
theorem dX6_learnNeeds_1 : decode cX6_learnNeeds 1 = .ok (.getfield 15, 3) := by decide +kernel
theorem dX6_learnNeeds_4 : decode cX6_learnNeeds 4 = .ok (.iconst 0, 1) := by decide +kernel
theorem dX6_learnNeeds_5 : decode cX6_learnNeeds 5 = .ok (.invokestatic 62, 3) := by decide +kernel
theorem dX6_learnNeeds_8 : decode cX6_learnNeeds 8 = .ok (.aload_n 0, 1) := by decide +kernel
theorem dX6_learnNeeds_9 : decode cX6_learnNeeds 9 = .ok (.getfield 18, 3) := by decide +kernel
theorem dX6_learnNeeds_12 : decode cX6_learnNeeds 12 = .ok (.iconst 0, 1) := by decide +kernel
theorem dX6_learnNeeds_13 : decode cX6_learnNeeds 13 = .ok (.invokestatic 62, 3) := by decide +kernel
theorem dX6_learnNeeds_16 : decode cX6_learnNeeds 16 = .ok (.aload_n 0, 1) := by decide +kernel
theorem dX6_learnNeeds_17 : decode cX6_learnNeeds 17 = .ok (.getfield 21, 3) := by decide +kernel
theorem dX6_learnNeeds_20 : decode cX6_learnNeeds 20 = .ok (.iconst 0, 1) := by decide +kernel
theorem dX6_learnNeeds_21 : decode cX6_learnNeeds 21 = .ok (.invokestatic 62, 3) := by decide +kernel
theorem dX6_learnNeeds_24 : decode cX6_learnNeeds 24 = .ok (.aload_n 0, 1) := by decide +kernel
theorem dX6_learnNeeds_25 : decode cX6_learnNeeds 25 = .ok (.getfield 43, 3) := by decide +kernel
theorem dX6_learnNeeds_28 : decode cX6_learnNeeds 28 = .ok (.iconst 1, 1) := by decide +kernel
theorem dX6_learnNeeds_29 : decode cX6_learnNeeds 29 = .ok (.isub, 1) := by decide +kernel
theorem dX6_learnNeeds_30 : decode cX6_learnNeeds 30 = .ok (.istore_n 2, 1) := by decide +kernel
theorem dX6_learnNeeds_31 : decode cX6_learnNeeds 31 = .ok (.iload_n 2, 1) := by decide +kernel
theorem dX6_learnNeeds_32 : decode cX6_learnNeeds 32 = .ok (.ifCond .lt 129, 3) := by decide +kernel
theorem dX6_learnNeeds_161 : decode cX6_learnNeeds 161 = .ok (.return_, 1) := by decide +kernel
theorem dX6_fill_0 : decode cX6_fill 0 = .ok (.iconst 1, 1) := by decide +kernel
theorem dX6_fill_1 : decode cX6_fill 1 = .ok (.aload_n 0, 1) := by decide +kernel
theorem dX6_fill_2 : decode cX6_fill 2 = .ok (.getfield 43, 3) := by decide +kernel
theorem dX6_fill_5 : decode cX6_fill 5 = .ok (.ishl, 1) := by decide +kernel
theorem dX6_fill_6 : decode cX6_fill 6 = .ok (.iconst 1, 1) := by decide +kernel
theorem dX6_fill_7 : decode cX6_fill 7 = .ok (.isub, 1) := by decide +kernel
theorem dX6_fill_8 : decode cX6_fill 8 = .ok (.iload_n 1, 1) := by decide +kernel
theorem dX6_fill_9 : decode cX6_fill 9 = .ok (.iconst (-1), 1) := by decide +kernel
theorem dX6_fill_10 : decode cX6_fill 10 = .ok (.ixor, 1) := by decide +kernel
theorem dX6_fill_11 : decode cX6_fill 11 = .ok (.iand, 1) := by decide +kernel
theorem dX6_fill_12 : decode cX6_fill 12 = .ok (.istore_n 3, 1) := by decide +kernel
theorem dX6_fill_13 : decode cX6_fill 13 = .ok (.iload_n 3, 1) := by decide +kernel
theorem dX6_fill_14 : decode cX6_fill 14 = .ok (.ifCond .ne 5, 3) := by decide +kernel
theorem dX6_fill_17 : decode cX6_fill 17 = .ok (.iconst 1, 1) := by decide +kernel
theorem dX6_fill_18 : decode cX6_fill 18 = .ok (.ireturn, 1) := by decide +kernel
theorem dJ7_fill_53178_0 : decode cJ7_fill_53178 0 = .ok (.iconst 0, 1) := by decide +kernel
theorem dJ7_fill_53178_1 : decode cJ7_fill_53178 1 = .ok (.istore_n 2, 1) := by decide +kernel
theorem dJ7_fill_53178_2 : decode cJ7_fill_53178 2 = .ok (.aload_n 0, 1) := by decide +kernel
theorem dJ7_fill_53178_3 : decode cJ7_fill_53178 3 = .ok (.arraylength, 1) := by decide +kernel
theorem dJ7_fill_53178_4 : decode cJ7_fill_53178 4 = .ok (.istore_n 3, 1) := by decide +kernel
theorem dJ7_fill_53178_5 : decode cJ7_fill_53178 5 = .ok (.iload_n 2, 1) := by decide +kernel
theorem dJ7_fill_53178_6 : decode cJ7_fill_53178 6 = .ok (.iload_n 3, 1) := by decide +kernel
theorem dJ7_fill_53178_7 : decode cJ7_fill_53178 7 = .ok (.if_icmp .ge 13, 3) := by decide +kernel
theorem dJ7_fill_53178_10 : decode cJ7_fill_53178 10 = .ok (.aload_n 0, 1) := by decide +kernel
theorem dJ7_fill_53178_11 : decode cJ7_fill_53178 11 = .ok (.iload_n 2, 1) := by decide +kernel
theorem dJ7_fill_53178_12 : decode cJ7_fill_53178 12 = .ok (.iload_n 1, 1) := by decide +kernel
theorem dJ7_fill_53178_13 : decode cJ7_fill_53178 13 = .ok (.iastore, 1) := by decide +kernel
theorem dJ7_fill_53178_14 : decode cJ7_fill_53178 14 = .ok (.iinc 2 1, 3) := by decide +kernel
theorem dJ7_fill_53178_17 : decode cJ7_fill_53178 17 = .ok (.goto (-12), 3) := by decide +kernel
theorem dJ7_fill_53178_20 : decode cJ7_fill_53178 20 = .ok (.return_, 1) := by decide +kernel
end
section
set_option maxRecDepth 20000 in
theorem ggX7_init_X2_init : GoodIn wsX7_init wsX2_init := goodIn_r _ [39, 40, 2, 3, 28, 41, 31, 42, 43, 44, 45, 46, 47, 48, 123, 124, 125, 126, 127] rfl (by decide +kernel)
set_option maxRecDepth 20000 in
theorem gX7_init_X2_init : GoodIn wsX7_init (wsX2_init) := ggX7_init_X2_init
set_option maxRecDepth 20000 in
theorem ggX7_init_X5_init : GoodIn wsX7_init wsX5_init := goodIn_r _ [50, 51, 2, 3, 28, 52, 53, 54, 55, 56, 57, 58, 144, 145, 146, 147, 148, 149, 150] rfl (by decide +kernel)
set_option maxRecDepth 20000 in
theorem gX7_init_X5_init_n18 : GoodIn wsX7_init (wsX5_init) := ggX7_init_X5_init
set_option maxRecDepth 20000 in
theorem ggX7_init_X3_init : GoodIn wsX7_init wsX3_init := goodIn_r _ [61, 62, 2, 3, 63, 64, 28, 65, 66, 67, 68, 69, 70, 71, 72, 73, 74, 75, 76, 77, 78, 79, 80, 81, 82, 83, 84, 85, 86, 151, 152, 153, 154, 155, 156, 157, 189, 190, 191, 192, 193, 194, 195, 196, 197, 198] rfl (by decide +kernel)
set_option maxRecDepth 20000 in
theorem gX7_init_X3_init : GoodIn wsX7_init (wsX3_init) := ggX7_init_X3_init
set_option maxRecDepth 20000 in
theorem ggX7_init_X4_init : GoodIn wsX7_init wsX4_init := goodIn_r _ [89, 90, 2, 3, 28, 91, 92, 93, 94, 95, 96, 97, 158, 159, 160, 161, 162, 163, 164, 165, 166] rfl (by decide +kernel)
set_option maxRecDepth 20000 in
theorem gX7_init_X4_init : GoodIn wsX7_init (wsX4_init) := ggX7_init_X4_init
set_option maxRecDepth 20000 in
theorem ggX7_init_X1_init : GoodIn wsX7_init wsX1_init := goodIn_r _ [100, 101, 2, 3, 28, 102, 103, 104, 105, 106, 107, 108, 109, 110, 167, 168, 169, 170, 171, 172, 173, 174, 175, 176, 177, 178] rfl (by decide +kernel)
set_option maxRecDepth 20000 in
theorem gX7_init_X1_init : GoodIn wsX7_init (wsX1_init) := ggX7_init_X1_init
set_option maxRecDepth 20000 in
theorem ggX7_init_X0_init : GoodIn wsX7_init wsX0_init := goodIn_r _ [113, 114, 2, 3, 115, 28, 116, 31, 117, 118, 119, 120, 121, 179, 180, 181, 182, 183, 184, 185, 186, 187, 188] rfl (by decide +kernel)
set_option maxRecDepth 20000 in
theorem gX7_init_X0_init : GoodIn wsX7_init (wsX0_init) := ggX7_init_X0_init
set_option maxRecDepth 20000 in
theorem ggX7_init_J7_fill_53178 : GoodIn wsX7_init wsJ7_fill_53178 := goodIn_r _ [48] rfl (by decide +kernel)
set_option maxRecDepth 20000 in
theorem gX7_init_J7_fill_53178 : GoodIn wsX7_init (va_wsS RX7 77 yJ7_fill_53178 wsJ7_fill_53178) := goodIn_app (goodIn_of _ (by decide +kernel)) ggX7_init_J7_fill_53178
theorem dX7_init_0 : decode cX7_init 0 = .ok (.aload_n 0, 1) := by decide +kernel
theorem dX7_init_1 : decode cX7_init 1 = .ok (.invokespecial 3, 3) := by decide +kernel
theorem dX7_init_4 : decode cX7_init 4 = .ok (.aload_n 0, 1) := by decide +kernel
theorem dX7_init_5 : decode cX7_init 5 = .ok (.new 9, 3) := by decide +kernel
theorem dX7_init_8 : decode cX7_init 8 = .ok (.dup, 1) := by decide +kernel
theorem dX7_init_9 : decode cX7_init 9 = .ok (.invokespecial 11, 3) := by decide +kernel
theorem dX7_init_12 : decode cX7_init 12 = .ok (.putfield 12, 3) := by decide +kernel
theorem dX7_init_15 : decode cX7_init 15 = .ok (.aload_n 0, 1) := by decide +kernel
theorem dX7_init_16 : decode cX7_init 16 = .ok (.new 16, 3) := by decide +kernel
theorem dX7_init_19 : decode cX7_init 19 = .ok (.dup, 1) := by decide +kernel
theorem dX7_init_20 : decode cX7_init 20 = .ok (.invokespecial 18, 3) := by decide +kernel
theorem dX7_init_23 : decode cX7_init 23 = .ok (.putfield 19, 3) := by decide +kernel
theorem dX7_init_26 : decode cX7_init 26 = .ok (.aload_n 0, 1) := by decide +kernel
theorem dX7_init_27 : decode cX7_init 27 = .ok (.new 23, 3) := by decide +kernel
theorem dX7_init_30 : decode cX7_init 30 = .ok (.dup, 1) := by decide +kernel
theorem dX7_init_31 : decode cX7_init 31 = .ok (.aload_n 0, 1) := by decide +kernel
theorem dX7_init_32 : decode cX7_init 32 = .ok (.getfield 19, 3) := by decide +kernel
theorem dX7_init_35 : decode cX7_init 35 = .ok (.invokespecial 25, 3) := by decide +kernel
theorem dX7_init_38 : decode cX7_init 38 = .ok (.putfield 28, 3) := by decide +kernel
theorem dX7_init_41 : decode cX7_init 41 = .ok (.aload_n 0, 1) := by decide +kernel
theorem dX7_init_42 : decode cX7_init 42 = .ok (.new 32, 3) := by decide +kernel
theorem dX7_init_45 : decode cX7_init 45 = .ok (.dup, 1) := by decide +kernel
theorem dX7_init_46 : decode cX7_init 46 = .ok (.aload_n 0, 1) := by decide +kernel
theorem dX7_init_47 : decode cX7_init 47 = .ok (.getfield 19, 3) := by decide +kernel
theorem dX7_init_50 : decode cX7_init 50 = .ok (.aload_n 0, 1) := by decide +kernel
theorem dX7_init_51 : decode cX7_init 51 = .ok (.getfield 28, 3) := by decide +kernel
theorem dX7_init_54 : decode cX7_init 54 = .ok (.invokespecial 34, 3) := by decide +kernel
theorem dX7_init_57 : decode cX7_init 57 = .ok (.putfield 37, 3) := by decide +kernel
theorem dX7_init_60 : decode cX7_init 60 = .ok (.aload_n 0, 1) := by decide +kernel
theorem dX7_init_61 : decode cX7_init 61 = .ok (.new 41, 3) := by decide +kernel
theorem dX7_init_64 : decode cX7_init 64 = .ok (.dup, 1) := by decide +kernel
theorem dX7_init_65 : decode cX7_init 65 = .ok (.aload_n 0, 1) := by decide +kernel
theorem dX7_init_66 : decode cX7_init 66 = .ok (.getfield 19, 3) := by decide +kernel
theorem dX7_init_69 : decode cX7_init 69 = .ok (.aload_n 0, 1) := by decide +kernel
theorem dX7_init_70 : decode cX7_init 70 = .ok (.getfield 37, 3) := by decide +kernel
theorem dX7_init_73 : decode cX7_init 73 = .ok (.invokespecial 43, 3) := by decide +kernel
theorem dX7_init_76 : decode cX7_init 76 = .ok (.putfield 46, 3) := by decide +kernel
theorem dX7_init_79 : decode cX7_init 79 = .ok (.aload_n 0, 1) := by decide +kernel
theorem dX7_init_80 : decode cX7_init 80 = .ok (.new 50, 3) := by decide +kernel
theorem dX7_init_83 : decode cX7_init 83 = .ok (.dup, 1) := by decide +kernel
theorem dX7_init_84 : decode cX7_init 84 = .ok (.aload_n 0, 1) := by decide +kernel
theorem dX7_init_85 : decode cX7_init 85 = .ok (.getfield 12, 3) := by decide +kernel
theorem dX7_init_88 : decode cX7_init 88 = .ok (.aload_n 0, 1) := by decide +kernel
theorem dX7_init_89 : decode cX7_init 89 = .ok (.getfield 19, 3) := by decide +kernel
theorem dX7_init_92 : decode cX7_init 92 = .ok (.aload_n 0, 1) := by decide +kernel
theorem dX7_init_93 : decode cX7_init 93 = .ok (.getfield 28, 3) := by decide +kernel
theorem dX7_init_96 : decode cX7_init 96 = .ok (.invokespecial 52, 3) := by decide +kernel
theorem dX7_init_99 : decode cX7_init 99 = .ok (.putfield 55, 3) := by decide +kernel
theorem dX7_init_102 : decode cX7_init 102 = .ok (.aload_n 0, 1) := by decide +kernel
theorem dX7_init_103 : decode cX7_init 103 = .ok (.iconst 3, 1) := by decide +kernel
theorem dX7_init_104 : decode cX7_init 104 = .ok (.newarray .int, 2) := by decide +kernel
theorem dX7_init_106 : decode cX7_init 106 = .ok (.putfield 59, 3) := by decide +kernel
theorem dX7_init_109 : decode cX7_init 109 = .ok (.aload_n 0, 1) := by decide +kernel
theorem dX7_init_110 : decode cX7_init 110 = .ok (.bipush 16, 2) := by decide +kernel
theorem dX7_init_112 : decode cX7_init 112 = .ok (.newarray .int, 2) := by decide +kernel
theorem dX7_init_114 : decode cX7_init 114 = .ok (.putfield 63, 3) := by decide +kernel
theorem dX7_init_117 : decode cX7_init 117 = .ok (.aload_n 0, 1) := by decide +kernel
theorem dX7_init_118 : decode cX7_init 118 = .ok (.bipush 74, 2) := by decide +kernel
theorem dX7_init_120 : decode cX7_init 120 = .ok (.newarray .long, 2) := by decide +kernel
theorem dX7_init_122 : decode cX7_init 122 = .ok (.putfield 66, 3) := by decide +kernel
theorem dX7_init_125 : decode cX7_init 125 = .ok (.aload_n 0, 1) := by decide +kernel
theorem dX7_init_126 : decode cX7_init 126 = .ok (.bipush 64, 2) := by decide +kernel
theorem dX7_init_128 : decode cX7_init 128 = .ok (.newarray .short, 2) := by decide +kernel
theorem dX7_init_130 : decode cX7_init 130 = .ok (.putfield 70, 3) := by decide +kernel
theorem dX7_init_133 : decode cX7_init 133 = .ok (.aload_n 0, 1) := by decide +kernel
theorem dX7_init_134 : decode cX7_init 134 = .ok (.bipush 8, 2) := by decide +kernel
theorem dX7_init_136 : decode cX7_init 136 = .ok (.newarray .int, 2) := by decide +kernel
theorem dX7_init_138 : decode cX7_init 138 = .ok (.putfield 74, 3) := by decide +kernel
theorem dX7_init_141 : decode cX7_init 141 = .ok (.aload_n 0, 1) := by decide +kernel
theorem dX7_init_142 : decode cX7_init 142 = .ok (.getfield 63, 3) := by decide +kernel
theorem dX7_init_145 : decode cX7_init 145 = .ok (.iconst (-1), 1) := by decide +kernel
theorem dX7_init_146 : decode cX7_init 146 = .ok (.invokestatic 77, 3) := by decide +kernel
theorem dX7_init_149 : decode cX7_init 149 = .ok (.aload_n 0, 1) := by decide +kernel
theorem dX7_init_150 : decode cX7_init 150 = .ok (.getfield 59, 3) := by decide +kernel
theorem dX7_init_153 : decode cX7_init 153 = .ok (.iconst 2, 1) := by decide +kernel
theorem dX7_init_154 : decode cX7_init 154 = .ok (.iconst (-1), 1) := by decide +kernel
theorem dX7_init_155 : decode cX7_init 155 = .ok (.iastore, 1) := by decide +kernel
theorem dX7_init_156 : decode cX7_init 156 = .ok (.aload_n 0, 1) := by decide +kernel
theorem dX7_init_157 : decode cX7_init 157 = .ok (.iconst (-1), 1) := by decide +kernel
theorem dX7_init_158 : decode cX7_init 158 = .ok (.putfield 83, 3) := by decide +kernel
theorem dX7_init_161 : decode cX7_init 161 = .ok (.return_, 1) := by decide +kernel
set_option maxRecDepth 20000 in
theorem ggX7_width_X7_isRegister : GoodIn wsX7_width wsX7_isRegister := goodIn_r _ [7] rfl (by decide +kernel)
set_option maxRecDepth 20000 in
theorem gX7_width_X7_isRegister : GoodIn wsX7_width (va_wsS RX7 87 yX7_isRegister wsX7_isRegister) := goodIn_app (goodIn_of _ (by decide +kernel)) ggX7_width_X7_isRegister
set_option maxRecDepth 20000 in
theorem ggX7_width_X7_refuse : GoodIn wsX7_width wsX7_refuse := goodIn_r _ [11, 12, 24, 25, 26, 27, 28, 29, 30, 31, 32, 33, 34, 35, 36, 37, 38, 39] rfl (by decide +kernel)
set_option maxRecDepth 20000 in
theorem gX7_width_X7_refuse : GoodIn wsX7_width (wsV RX7 91 RX7 yX7_refuse wsX7_refuse) := goodIn_app (goodIn_of _ (by decide +kernel)) ggX7_width_X7_refuse
set_option maxRecDepth 20000 in
theorem ggX7_width_X2_put : GoodIn wsX7_width wsX2_put := goodIn_r _ [17, 18, 19, 20, 21, 16, 22, 23, 40, 41, 42, 43, 44] rfl (by decide +kernel)
set_option maxRecDepth 20000 in
theorem gX7_width_X2_put : GoodIn wsX7_width (wsV RX7 101 RX2 yX2_put wsX2_put) := goodIn_app (goodIn_of _ (by decide +kernel)) ggX7_width_X2_put
theorem dX7_width_0 : decode cX7_width 0 = .ok (.iload_n 1, 1) := by decide +kernel
theorem dX7_width_1 : decode cX7_width 1 = .ok (.invokestatic 87, 3) := by decide +kernel
theorem dX7_width_4 : decode cX7_width 4 = .ok (.ifCond .ne 10, 3) := by decide +kernel
theorem dX7_width_7 : decode cX7_width 7 = .ok (.aload_n 0, 1) := by decide +kernel
theorem dX7_width_8 : decode cX7_width 8 = .ok (.bipush (-3), 2) := by decide +kernel
theorem dX7_width_10 : decode cX7_width 10 = .ok (.invokevirtual 91, 3) := by decide +kernel
theorem dX7_width_13 : decode cX7_width 13 = .ok (.ireturn, 1) := by decide +kernel
theorem dX7_width_14 : decode cX7_width 14 = .ok (.iload_n 2, 1) := by decide +kernel
theorem dX7_width_15 : decode cX7_width 15 = .ok (.iconst 1, 1) := by decide +kernel
theorem dX7_width_16 : decode cX7_width 16 = .ok (.if_icmp .lt 9, 3) := by decide +kernel
theorem dX7_width_19 : decode cX7_width 19 = .ok (.iload_n 2, 1) := by decide +kernel
theorem dX7_width_20 : decode cX7_width 20 = .ok (.bipush 32, 2) := by decide +kernel
theorem dX7_width_22 : decode cX7_width 22 = .ok (.if_icmp .le 10, 3) := by decide +kernel
theorem dX7_width_25 : decode cX7_width 25 = .ok (.aload_n 0, 1) := by decide +kernel
theorem dX7_width_26 : decode cX7_width 26 = .ok (.bipush (-6), 2) := by decide +kernel
theorem dX7_width_28 : decode cX7_width 28 = .ok (.invokevirtual 91, 3) := by decide +kernel
theorem dX7_width_31 : decode cX7_width 31 = .ok (.ireturn, 1) := by decide +kernel
theorem dX7_width_32 : decode cX7_width 32 = .ok (.aload_n 0, 1) := by decide +kernel
theorem dX7_width_33 : decode cX7_width 33 = .ok (.getfield 12, 3) := by decide +kernel
theorem dX7_width_36 : decode cX7_width 36 = .ok (.getfield 95, 3) := by decide +kernel
theorem dX7_width_39 : decode cX7_width 39 = .ok (.iload_n 1, 1) := by decide +kernel
theorem dX7_width_40 : decode cX7_width 40 = .ok (.iaload, 1) := by decide +kernel
theorem dX7_width_41 : decode cX7_width 41 = .ok (.istore_n 3, 1) := by decide +kernel
theorem dX7_width_42 : decode cX7_width 42 = .ok (.aload_n 0, 1) := by decide +kernel
theorem dX7_width_43 : decode cX7_width 43 = .ok (.getfield 12, 3) := by decide +kernel
theorem dX7_width_46 : decode cX7_width 46 = .ok (.getfield 95, 3) := by decide +kernel
theorem dX7_width_49 : decode cX7_width 49 = .ok (.iload_n 1, 1) := by decide +kernel
theorem dX7_width_50 : decode cX7_width 50 = .ok (.iload_n 2, 1) := by decide +kernel
theorem dX7_width_51 : decode cX7_width 51 = .ok (.iastore, 1) := by decide +kernel
theorem dX7_width_52 : decode cX7_width 52 = .ok (.aload_n 0, 1) := by decide +kernel
theorem dX7_width_53 : decode cX7_width 53 = .ok (.getfield 12, 3) := by decide +kernel
theorem dX7_width_56 : decode cX7_width 56 = .ok (.iload_n 1, 1) := by decide +kernel
theorem dX7_width_57 : decode cX7_width 57 = .ok (.aload_n 0, 1) := by decide +kernel
theorem dX7_width_58 : decode cX7_width 58 = .ok (.getfield 12, 3) := by decide +kernel
theorem dX7_width_61 : decode cX7_width 61 = .ok (.getfield 98, 3) := by decide +kernel
theorem dX7_width_64 : decode cX7_width 64 = .ok (.iload_n 1, 1) := by decide +kernel
theorem dX7_width_65 : decode cX7_width 65 = .ok (.laload, 1) := by decide +kernel
theorem dX7_width_66 : decode cX7_width 66 = .ok (.invokevirtual 101, 3) := by decide +kernel
theorem dX7_width_69 : decode cX7_width 69 = .ok (.pop, 1) := by decide +kernel
theorem dX7_width_70 : decode cX7_width 70 = .ok (.iload_n 3, 1) := by decide +kernel
theorem dX7_width_71 : decode cX7_width 71 = .ok (.ireturn, 1) := by decide +kernel
set_option maxRecDepth 20000 in
theorem ggX7_set_X7_isRegister : GoodIn wsX7_set wsX7_isRegister := goodIn_r _ [5] rfl (by decide +kernel)
set_option maxRecDepth 20000 in
theorem gX7_set_X7_isRegister : GoodIn wsX7_set (va_wsS RX7 87 yX7_isRegister wsX7_isRegister) := goodIn_app (goodIn_of _ (by decide +kernel)) ggX7_set_X7_isRegister
set_option maxRecDepth 20000 in
theorem ggX7_set_X7_refuse : GoodIn wsX7_set wsX7_refuse := goodIn_r _ [9, 10, 22, 23, 24, 25, 26, 27, 28, 29, 30, 31, 32, 33, 34, 35, 36, 37] rfl (by decide +kernel)
set_option maxRecDepth 20000 in
theorem gX7_set_X7_refuse : GoodIn wsX7_set (wsV RX7 91 RX7 yX7_refuse wsX7_refuse) := goodIn_app (goodIn_of _ (by decide +kernel)) ggX7_set_X7_refuse
set_option maxRecDepth 20000 in
theorem ggX7_set_X2_put : GoodIn wsX7_set wsX2_put := goodIn_r _ [15, 16, 17, 18, 19, 14, 20, 21, 38, 39, 40, 41, 42] rfl (by decide +kernel)
set_option maxRecDepth 20000 in
theorem gX7_set_X2_put : GoodIn wsX7_set (wsV RX7 101 RX2 yX2_put wsX2_put) := goodIn_app (goodIn_of _ (by decide +kernel)) ggX7_set_X2_put
theorem dX7_set_0 : decode cX7_set 0 = .ok (.iload_n 1, 1) := by decide +kernel
theorem dX7_set_1 : decode cX7_set 1 = .ok (.invokestatic 87, 3) := by decide +kernel
theorem dX7_set_4 : decode cX7_set 4 = .ok (.ifCond .ne 10, 3) := by decide +kernel
theorem dX7_set_7 : decode cX7_set 7 = .ok (.aload_n 0, 1) := by decide +kernel
theorem dX7_set_8 : decode cX7_set 8 = .ok (.bipush (-3), 2) := by decide +kernel
theorem dX7_set_10 : decode cX7_set 10 = .ok (.invokevirtual 91, 3) := by decide +kernel
theorem dX7_set_13 : decode cX7_set 13 = .ok (.ireturn, 1) := by decide +kernel
theorem dX7_set_14 : decode cX7_set 14 = .ok (.aload_n 0, 1) := by decide +kernel
theorem dX7_set_15 : decode cX7_set 15 = .ok (.getfield 12, 3) := by decide +kernel
theorem dX7_set_18 : decode cX7_set 18 = .ok (.iload_n 1, 1) := by decide +kernel
theorem dX7_set_19 : decode cX7_set 19 = .ok (.lload_n 2, 1) := by decide +kernel
theorem dX7_set_20 : decode cX7_set 20 = .ok (.invokevirtual 101, 3) := by decide +kernel
theorem dX7_set_23 : decode cX7_set 23 = .ok (.ireturn, 1) := by decide +kernel
set_option maxRecDepth 20000 in
theorem ggX7_register_X7_isRegister : GoodIn wsX7_register wsX7_isRegister := goodIn_r _ [6] rfl (by decide +kernel)
set_option maxRecDepth 20000 in
theorem gX7_register_X7_isRegister : GoodIn wsX7_register (va_wsS RX7 87 yX7_isRegister wsX7_isRegister) := goodIn_app (goodIn_of _ (by decide +kernel)) ggX7_register_X7_isRegister
set_option maxRecDepth 20000 in
theorem ggX7_register_X7_refuse : GoodIn wsX7_register wsX7_refuse := goodIn_r _ [10, 11, 12, 13, 14, 15, 16, 17, 18, 19, 20, 21, 22, 23, 24, 25, 26, 27] rfl (by decide +kernel)
set_option maxRecDepth 20000 in
theorem gX7_register_X7_refuse : GoodIn wsX7_register (wsV RX7 91 RX7 yX7_refuse wsX7_refuse) := goodIn_app (goodIn_of _ (by decide +kernel)) ggX7_register_X7_refuse
theorem dX7_register_0 : decode cX7_register 0 = .ok (.iload_n 1, 1) := by decide +kernel
theorem dX7_register_1 : decode cX7_register 1 = .ok (.invokestatic 87, 3) := by decide +kernel
theorem dX7_register_4 : decode cX7_register 4 = .ok (.ifCond .ne 12, 3) := by decide +kernel
theorem dX7_register_7 : decode cX7_register 7 = .ok (.aload_n 0, 1) := by decide +kernel
theorem dX7_register_8 : decode cX7_register 8 = .ok (.bipush (-3), 2) := by decide +kernel
theorem dX7_register_10 : decode cX7_register 10 = .ok (.invokevirtual 91, 3) := by decide +kernel
theorem dX7_register_13 : decode cX7_register 13 = .ok (.pop, 1) := by decide +kernel
theorem dX7_register_14 : decode cX7_register 14 = .ok (.lconst 0, 1) := by decide +kernel
theorem dX7_register_15 : decode cX7_register 15 = .ok (.lreturn, 1) := by decide +kernel
theorem dX7_register_16 : decode cX7_register 16 = .ok (.aload_n 0, 1) := by decide +kernel
theorem dX7_register_17 : decode cX7_register 17 = .ok (.getfield 12, 3) := by decide +kernel
theorem dX7_register_20 : decode cX7_register 20 = .ok (.getfield 98, 3) := by decide +kernel
theorem dX7_register_23 : decode cX7_register 23 = .ok (.iload_n 1, 1) := by decide +kernel
theorem dX7_register_24 : decode cX7_register 24 = .ok (.laload, 1) := by decide +kernel
theorem dX7_register_25 : decode cX7_register 25 = .ok (.lreturn, 1) := by decide +kernel
set_option maxRecDepth 20000 in
theorem ggX7_poke_X7_isCell : GoodIn wsX7_poke wsX7_isCell := goodIn_r _ [5, 6] rfl (by decide +kernel)
set_option maxRecDepth 20000 in
theorem gX7_poke_X7_isCell : GoodIn wsX7_poke (va_wsS RX7 105 yX7_isCell wsX7_isCell) := goodIn_app (goodIn_of _ (by decide +kernel)) ggX7_poke_X7_isCell
set_option maxRecDepth 20000 in
theorem ggX7_poke_X7_refuse : GoodIn wsX7_poke wsX7_refuse := goodIn_r _ [10, 11, 23, 24, 25, 26, 27, 28, 29, 30, 31, 32, 33, 34, 35, 36, 37, 38] rfl (by decide +kernel)
set_option maxRecDepth 20000 in
theorem gX7_poke_X7_refuse : GoodIn wsX7_poke (wsV RX7 91 RX7 yX7_refuse wsX7_refuse) := goodIn_app (goodIn_of _ (by decide +kernel)) ggX7_poke_X7_refuse
set_option maxRecDepth 20000 in
theorem ggX7_poke_X2_put : GoodIn wsX7_poke wsX2_put := goodIn_r _ [16, 17, 18, 19, 20, 15, 21, 22, 39, 40, 41, 42, 43] rfl (by decide +kernel)
set_option maxRecDepth 20000 in
theorem gX7_poke_X2_put : GoodIn wsX7_poke (wsV RX7 101 RX2 yX2_put wsX2_put) := goodIn_app (goodIn_of _ (by decide +kernel)) ggX7_poke_X2_put
theorem dX7_poke_0 : decode cX7_poke 0 = .ok (.iload_n 1, 1) := by decide +kernel
theorem dX7_poke_1 : decode cX7_poke 1 = .ok (.i2l, 1) := by decide +kernel
theorem dX7_poke_2 : decode cX7_poke 2 = .ok (.invokestatic 105, 3) := by decide +kernel
theorem dX7_poke_5 : decode cX7_poke 5 = .ok (.ifCond .ne 10, 3) := by decide +kernel
theorem dX7_poke_8 : decode cX7_poke 8 = .ok (.aload_n 0, 1) := by decide +kernel
theorem dX7_poke_9 : decode cX7_poke 9 = .ok (.bipush (-3), 2) := by decide +kernel
theorem dX7_poke_11 : decode cX7_poke 11 = .ok (.invokevirtual 91, 3) := by decide +kernel
theorem dX7_poke_14 : decode cX7_poke 14 = .ok (.ireturn, 1) := by decide +kernel
theorem dX7_poke_15 : decode cX7_poke 15 = .ok (.aload_n 0, 1) := by decide +kernel
theorem dX7_poke_16 : decode cX7_poke 16 = .ok (.getfield 12, 3) := by decide +kernel
theorem dX7_poke_19 : decode cX7_poke 19 = .ok (.bipush 10, 2) := by decide +kernel
theorem dX7_poke_21 : decode cX7_poke 21 = .ok (.iload_n 1, 1) := by decide +kernel
theorem dX7_poke_22 : decode cX7_poke 22 = .ok (.iadd, 1) := by decide +kernel
theorem dX7_poke_23 : decode cX7_poke 23 = .ok (.lload_n 2, 1) := by decide +kernel
theorem dX7_poke_24 : decode cX7_poke 24 = .ok (.invokevirtual 101, 3) := by decide +kernel
theorem dX7_poke_27 : decode cX7_poke 27 = .ok (.ireturn, 1) := by decide +kernel
set_option maxRecDepth 20000 in
theorem ggX7_cell_X7_isCell : GoodIn wsX7_cell wsX7_isCell := goodIn_r _ [6, 7] rfl (by decide +kernel)
set_option maxRecDepth 20000 in
theorem gX7_cell_X7_isCell : GoodIn wsX7_cell (va_wsS RX7 105 yX7_isCell wsX7_isCell) := goodIn_app (goodIn_of _ (by decide +kernel)) ggX7_cell_X7_isCell
set_option maxRecDepth 20000 in
theorem ggX7_cell_X7_refuse : GoodIn wsX7_cell wsX7_refuse := goodIn_r _ [11, 12, 13, 14, 15, 16, 17, 18, 19, 20, 21, 22, 23, 24, 25, 26, 27, 28] rfl (by decide +kernel)
set_option maxRecDepth 20000 in
theorem gX7_cell_X7_refuse : GoodIn wsX7_cell (wsV RX7 91 RX7 yX7_refuse wsX7_refuse) := goodIn_app (goodIn_of _ (by decide +kernel)) ggX7_cell_X7_refuse
theorem dX7_cell_0 : decode cX7_cell 0 = .ok (.iload_n 1, 1) := by decide +kernel
theorem dX7_cell_1 : decode cX7_cell 1 = .ok (.i2l, 1) := by decide +kernel
theorem dX7_cell_2 : decode cX7_cell 2 = .ok (.invokestatic 105, 3) := by decide +kernel
theorem dX7_cell_5 : decode cX7_cell 5 = .ok (.ifCond .ne 12, 3) := by decide +kernel
theorem dX7_cell_8 : decode cX7_cell 8 = .ok (.aload_n 0, 1) := by decide +kernel
theorem dX7_cell_9 : decode cX7_cell 9 = .ok (.bipush (-3), 2) := by decide +kernel
theorem dX7_cell_11 : decode cX7_cell 11 = .ok (.invokevirtual 91, 3) := by decide +kernel
theorem dX7_cell_14 : decode cX7_cell 14 = .ok (.pop, 1) := by decide +kernel
theorem dX7_cell_15 : decode cX7_cell 15 = .ok (.lconst 0, 1) := by decide +kernel
theorem dX7_cell_16 : decode cX7_cell 16 = .ok (.lreturn, 1) := by decide +kernel
theorem dX7_cell_17 : decode cX7_cell 17 = .ok (.aload_n 0, 1) := by decide +kernel
theorem dX7_cell_18 : decode cX7_cell 18 = .ok (.getfield 12, 3) := by decide +kernel
theorem dX7_cell_21 : decode cX7_cell 21 = .ok (.getfield 98, 3) := by decide +kernel
theorem dX7_cell_24 : decode cX7_cell 24 = .ok (.bipush 10, 2) := by decide +kernel
theorem dX7_cell_26 : decode cX7_cell 26 = .ok (.iload_n 1, 1) := by decide +kernel
theorem dX7_cell_27 : decode cX7_cell 27 = .ok (.iadd, 1) := by decide +kernel
theorem dX7_cell_28 : decode cX7_cell 28 = .ok (.laload, 1) := by decide +kernel
theorem dX7_cell_29 : decode cX7_cell 29 = .ok (.lreturn, 1) := by decide +kernel
set_option maxRecDepth 20000 in
theorem ggX7_flag_X7_refuse : GoodIn wsX7_flag wsX7_refuse := goodIn_r _ [7, 8, 20, 21, 22, 23, 24, 25, 26, 27, 28, 29, 30, 31, 32, 33, 34, 35] rfl (by decide +kernel)
set_option maxRecDepth 20000 in
theorem gX7_flag_X7_refuse : GoodIn wsX7_flag (wsV RX7 91 RX7 yX7_refuse wsX7_refuse) := goodIn_app (goodIn_of _ (by decide +kernel)) ggX7_flag_X7_refuse
set_option maxRecDepth 20000 in
theorem ggX7_flag_X2_put : GoodIn wsX7_flag wsX2_put := goodIn_r _ [13, 14, 15, 16, 17, 12, 18, 19, 36, 37, 38, 39, 40] rfl (by decide +kernel)
set_option maxRecDepth 20000 in
theorem gX7_flag_X2_put : GoodIn wsX7_flag (wsV RX7 101 RX2 yX2_put wsX2_put) := goodIn_app (goodIn_of _ (by decide +kernel)) ggX7_flag_X2_put
theorem dX7_flag_0 : decode cX7_flag 0 = .ok (.iload_n 1, 1) := by decide +kernel
theorem dX7_flag_1 : decode cX7_flag 1 = .ok (.ifCond .lt 8, 3) := by decide +kernel
theorem dX7_flag_4 : decode cX7_flag 4 = .ok (.iload_n 1, 1) := by decide +kernel
theorem dX7_flag_5 : decode cX7_flag 5 = .ok (.iconst 2, 1) := by decide +kernel
theorem dX7_flag_6 : decode cX7_flag 6 = .ok (.if_icmp .lt 10, 3) := by decide +kernel
theorem dX7_flag_9 : decode cX7_flag 9 = .ok (.aload_n 0, 1) := by decide +kernel
theorem dX7_flag_10 : decode cX7_flag 10 = .ok (.bipush (-3), 2) := by decide +kernel
theorem dX7_flag_12 : decode cX7_flag 12 = .ok (.invokevirtual 91, 3) := by decide +kernel
theorem dX7_flag_15 : decode cX7_flag 15 = .ok (.ireturn, 1) := by decide +kernel
theorem dX7_flag_16 : decode cX7_flag 16 = .ok (.aload_n 0, 1) := by decide +kernel
theorem dX7_flag_17 : decode cX7_flag 17 = .ok (.getfield 12, 3) := by decide +kernel
theorem dX7_flag_20 : decode cX7_flag 20 = .ok (.getfield 98, 3) := by decide +kernel
theorem dX7_flag_23 : decode cX7_flag 23 = .ok (.bipush 8, 2) := by decide +kernel
theorem dX7_flag_25 : decode cX7_flag 25 = .ok (.iload_n 1, 1) := by decide +kernel
theorem dX7_flag_26 : decode cX7_flag 26 = .ok (.iadd, 1) := by decide +kernel
theorem dX7_flag_27 : decode cX7_flag 27 = .ok (.laload, 1) := by decide +kernel
theorem dX7_flag_28 : decode cX7_flag 28 = .ok (.l2i, 1) := by decide +kernel
theorem dX7_flag_29 : decode cX7_flag 29 = .ok (.istore_n 3, 1) := by decide +kernel
theorem dX7_flag_30 : decode cX7_flag 30 = .ok (.aload_n 0, 1) := by decide +kernel
theorem dX7_flag_31 : decode cX7_flag 31 = .ok (.getfield 12, 3) := by decide +kernel
theorem dX7_flag_34 : decode cX7_flag 34 = .ok (.bipush 8, 2) := by decide +kernel
theorem dX7_flag_36 : decode cX7_flag 36 = .ok (.iload_n 1, 1) := by decide +kernel
theorem dX7_flag_37 : decode cX7_flag 37 = .ok (.iadd, 1) := by decide +kernel
theorem dX7_flag_38 : decode cX7_flag 38 = .ok (.iload_n 2, 1) := by decide +kernel
theorem dX7_flag_39 : decode cX7_flag 39 = .ok (.ifCond .eq 7, 3) := by decide +kernel
theorem dX7_flag_42 : decode cX7_flag 42 = .ok (.lconst 1, 1) := by decide +kernel
theorem dX7_flag_43 : decode cX7_flag 43 = .ok (.goto 4, 3) := by decide +kernel
theorem dX7_flag_46 : decode cX7_flag 46 = .ok (.lconst 0, 1) := by decide +kernel
theorem dX7_flag_47 : decode cX7_flag 47 = .ok (.invokevirtual 101, 3) := by decide +kernel
theorem dX7_flag_50 : decode cX7_flag 50 = .ok (.pop, 1) := by decide +kernel
theorem dX7_flag_51 : decode cX7_flag 51 = .ok (.iload_n 3, 1) := by decide +kernel
theorem dX7_flag_52 : decode cX7_flag 52 = .ok (.ireturn, 1) := by decide +kernel
theorem dX7_flags_0 : decode cX7_flags 0 = .ok (.aload_n 0, 1) := by decide +kernel
theorem dX7_flags_1 : decode cX7_flags 1 = .ok (.getfield 12, 3) := by decide +kernel
theorem dX7_flags_4 : decode cX7_flags 4 = .ok (.getfield 98, 3) := by decide +kernel
theorem dX7_flags_7 : decode cX7_flags 7 = .ok (.bipush 8, 2) := by decide +kernel
theorem dX7_flags_9 : decode cX7_flags 9 = .ok (.laload, 1) := by decide +kernel
theorem dX7_flags_10 : decode cX7_flags 10 = .ok (.ldc2_w 109, 3) := by decide +kernel
theorem dX7_flags_13 : decode cX7_flags 13 = .ok (.aload_n 0, 1) := by decide +kernel
theorem dX7_flags_14 : decode cX7_flags 14 = .ok (.getfield 12, 3) := by decide +kernel
theorem dX7_flags_17 : decode cX7_flags 17 = .ok (.getfield 98, 3) := by decide +kernel
theorem dX7_flags_20 : decode cX7_flags 20 = .ok (.bipush 9, 2) := by decide +kernel
theorem dX7_flags_22 : decode cX7_flags 22 = .ok (.laload, 1) := by decide +kernel
theorem dX7_flags_23 : decode cX7_flags 23 = .ok (.lmul, 1) := by decide +kernel
theorem dX7_flags_24 : decode cX7_flags 24 = .ok (.ladd, 1) := by decide +kernel
theorem dX7_flags_25 : decode cX7_flags 25 = .ok (.l2i, 1) := by decide +kernel
theorem dX7_flags_26 : decode cX7_flags 26 = .ok (.ireturn, 1) := by decide +kernel
set_option maxRecDepth 20000 in
theorem ggX7_act_X7_isInstruction : GoodIn wsX7_act wsX7_isInstruction := goodIn_r _ [6] rfl (by decide +kernel)
set_option maxRecDepth 20000 in
theorem gX7_act_X7_isInstruction : GoodIn wsX7_act (va_wsS RX7 111 yX7_isInstruction wsX7_isInstruction) := goodIn_app (goodIn_of _ (by decide +kernel)) ggX7_act_X7_isInstruction
set_option maxRecDepth 20000 in
theorem ggX7_act_X7_refuse : GoodIn wsX7_act wsX7_refuse := goodIn_r _ [10, 11, 51, 52, 53, 54, 55, 56, 57, 58, 59, 60, 61, 62, 63, 64, 65, 66] rfl (by decide +kernel)
set_option maxRecDepth 20000 in
theorem gX7_act_X7_refuse : GoodIn wsX7_act (wsV RX7 91 RX7 yX7_refuse wsX7_refuse) := goodIn_app (goodIn_of _ (by decide +kernel)) ggX7_act_X7_refuse
set_option maxRecDepth 20000 in
theorem ggX7_act_X7_isAct : GoodIn wsX7_act wsX7_isAct := goodIn_r _ [14, 15, 16, 17, 18, 19, 5, 20, 21, 22] rfl (by decide +kernel)
set_option maxRecDepth 20000 in
theorem gX7_act_X7_isAct : GoodIn wsX7_act (va_wsS RX7 114 yX7_isAct wsX7_isAct) := goodIn_app (goodIn_of _ (by decide +kernel)) ggX7_act_X7_isAct
set_option maxRecDepth 20000 in
theorem ggX7_act_X5_add : GoodIn wsX7_act wsX5_add := goodIn_r _ [27, 28, 29, 30, 31, 32, 33, 34, 35, 5, 36, 37, 38, 26, 39, 40, 41, 42, 67, 68, 69, 70, 71, 72, 73] rfl (by decide +kernel)
set_option maxRecDepth 20000 in
theorem gX7_act_X5_add : GoodIn wsX7_act (wsV RX7 121 RX5 yX5_add wsX5_add) := goodIn_app (goodIn_of _ (by decide +kernel)) ggX7_act_X5_add
set_option maxRecDepth 20000 in
theorem ggX7_act_X7_takeAwayPackedOf : GoodIn wsX7_act wsX7_takeAwayPackedOf := goodIn_r _ [46, 47, 48, 49, 50, 51, 52, 53, 54, 55, 56, 57, 58, 59, 60, 61, 62, 63, 64, 65, 66, 74, 75, 76, 77, 78, 79, 80, 81, 82, 83, 84, 85, 86, 87, 88, 89] rfl (by decide +kernel)
set_option maxRecDepth 20000 in
theorem gX7_act_X7_takeAwayPackedOf : GoodIn wsX7_act (wsV RX7 125 RX7 yX7_takeAwayPackedOf wsX7_takeAwayPackedOf) := goodIn_app (goodIn_of _ (by decide +kernel)) ggX7_act_X7_takeAwayPackedOf
theorem dX7_act_0 : decode cX7_act 0 = .ok (.iload_n 1, 1) := by decide +kernel
theorem dX7_act_1 : decode cX7_act 1 = .ok (.invokestatic 111, 3) := by decide +kernel
theorem dX7_act_4 : decode cX7_act 4 = .ok (.ifCond .ne 10, 3) := by decide +kernel
theorem dX7_act_7 : decode cX7_act 7 = .ok (.aload_n 0, 1) := by decide +kernel
theorem dX7_act_8 : decode cX7_act 8 = .ok (.bipush (-3), 2) := by decide +kernel
theorem dX7_act_10 : decode cX7_act 10 = .ok (.invokevirtual 91, 3) := by decide +kernel
theorem dX7_act_13 : decode cX7_act 13 = .ok (.ireturn, 1) := by decide +kernel
theorem dX7_act_14 : decode cX7_act 14 = .ok (.iload_n 2, 1) := by decide +kernel
theorem dX7_act_15 : decode cX7_act 15 = .ok (.iload_n 3, 1) := by decide +kernel
theorem dX7_act_16 : decode cX7_act 16 = .ok (.iload 4, 2) := by decide +kernel
theorem dX7_act_18 : decode cX7_act 18 = .ok (.iload 5, 2) := by decide +kernel
theorem dX7_act_20 : decode cX7_act 20 = .ok (.invokestatic 114, 3) := by decide +kernel
theorem dX7_act_23 : decode cX7_act 23 = .ok (.ifCond .ne 10, 3) := by decide +kernel
theorem dX7_act_26 : decode cX7_act 26 = .ok (.aload_n 0, 1) := by decide +kernel
theorem dX7_act_27 : decode cX7_act 27 = .ok (.bipush (-6), 2) := by decide +kernel
theorem dX7_act_29 : decode cX7_act 29 = .ok (.invokevirtual 91, 3) := by decide +kernel
theorem dX7_act_32 : decode cX7_act 32 = .ok (.ireturn, 1) := by decide +kernel
theorem dX7_act_33 : decode cX7_act 33 = .ok (.aload_n 0, 1) := by decide +kernel
theorem dX7_act_34 : decode cX7_act 34 = .ok (.getfield 19, 3) := by decide +kernel
theorem dX7_act_37 : decode cX7_act 37 = .ok (.getfield 118, 3) := by decide +kernel
theorem dX7_act_40 : decode cX7_act 40 = .ok (.iload_n 1, 1) := by decide +kernel
theorem dX7_act_41 : decode cX7_act 41 = .ok (.iaload, 1) := by decide +kernel
theorem dX7_act_42 : decode cX7_act 42 = .ok (.bipush 10, 2) := by decide +kernel
theorem dX7_act_44 : decode cX7_act 44 = .ok (.if_icmp .lt 10, 3) := by decide +kernel
theorem dX7_act_54 : decode cX7_act 54 = .ok (.aload_n 0, 1) := by decide +kernel
theorem dX7_act_55 : decode cX7_act 55 = .ok (.getfield 19, 3) := by decide +kernel
theorem dX7_act_58 : decode cX7_act 58 = .ok (.iload_n 1, 1) := by decide +kernel
theorem dX7_act_59 : decode cX7_act 59 = .ok (.iload_n 2, 1) := by decide +kernel
theorem dX7_act_60 : decode cX7_act 60 = .ok (.iload_n 3, 1) := by decide +kernel
theorem dX7_act_61 : decode cX7_act 61 = .ok (.iload 4, 2) := by decide +kernel
theorem dX7_act_63 : decode cX7_act 63 = .ok (.iload 5, 2) := by decide +kernel
theorem dX7_act_65 : decode cX7_act 65 = .ok (.invokevirtual 121, 3) := by decide +kernel
theorem dX7_act_68 : decode cX7_act 68 = .ok (.aload_n 0, 1) := by decide +kernel
theorem dX7_act_69 : decode cX7_act 69 = .ok (.iload_n 1, 1) := by decide +kernel
theorem dX7_act_70 : decode cX7_act 70 = .ok (.invokevirtual 125, 3) := by decide +kernel
theorem dX7_act_73 : decode cX7_act 73 = .ok (.aload_n 0, 1) := by decide +kernel
theorem dX7_act_74 : decode cX7_act 74 = .ok (.getfield 19, 3) := by decide +kernel
theorem dX7_act_77 : decode cX7_act 77 = .ok (.getfield 118, 3) := by decide +kernel
theorem dX7_act_80 : decode cX7_act 80 = .ok (.iload_n 1, 1) := by decide +kernel
theorem dX7_act_81 : decode cX7_act 81 = .ok (.iaload, 1) := by decide +kernel
theorem dX7_act_82 : decode cX7_act 82 = .ok (.ireturn, 1) := by decide +kernel
set_option maxRecDepth 20000 in
theorem ggX7_clear_X7_isInstruction : GoodIn wsX7_clear wsX7_isInstruction := goodIn_r _ [6] rfl (by decide +kernel)
set_option maxRecDepth 20000 in
theorem gX7_clear_X7_isInstruction : GoodIn wsX7_clear (va_wsS RX7 111 yX7_isInstruction wsX7_isInstruction) := goodIn_app (goodIn_of _ (by decide +kernel)) ggX7_clear_X7_isInstruction
set_option maxRecDepth 20000 in
theorem ggX7_clear_X7_refuse : GoodIn wsX7_clear wsX7_refuse := goodIn_r _ [10, 11, 20, 21, 22, 23, 24, 25, 26, 27, 28, 29, 30, 31, 32, 33, 34, 35] rfl (by decide +kernel)
set_option maxRecDepth 20000 in
theorem gX7_clear_X7_refuse : GoodIn wsX7_clear (wsV RX7 91 RX7 yX7_refuse wsX7_refuse) := goodIn_app (goodIn_of _ (by decide +kernel)) ggX7_clear_X7_refuse
theorem dX7_clear_0 : decode cX7_clear 0 = .ok (.iload_n 1, 1) := by decide +kernel
theorem dX7_clear_1 : decode cX7_clear 1 = .ok (.invokestatic 111, 3) := by decide +kernel
theorem dX7_clear_4 : decode cX7_clear 4 = .ok (.ifCond .ne 10, 3) := by decide +kernel
theorem dX7_clear_7 : decode cX7_clear 7 = .ok (.aload_n 0, 1) := by decide +kernel
theorem dX7_clear_8 : decode cX7_clear 8 = .ok (.bipush (-3), 2) := by decide +kernel
theorem dX7_clear_10 : decode cX7_clear 10 = .ok (.invokevirtual 91, 3) := by decide +kernel
theorem dX7_clear_13 : decode cX7_clear 13 = .ok (.ireturn, 1) := by decide +kernel
theorem dX7_clear_14 : decode cX7_clear 14 = .ok (.aload_n 0, 1) := by decide +kernel
theorem dX7_clear_15 : decode cX7_clear 15 = .ok (.getfield 19, 3) := by decide +kernel
theorem dX7_clear_18 : decode cX7_clear 18 = .ok (.getfield 118, 3) := by decide +kernel
theorem dX7_clear_21 : decode cX7_clear 21 = .ok (.iload_n 1, 1) := by decide +kernel
theorem dX7_clear_22 : decode cX7_clear 22 = .ok (.iaload, 1) := by decide +kernel
theorem dX7_clear_23 : decode cX7_clear 23 = .ok (.istore_n 2, 1) := by decide +kernel
theorem dX7_clear_24 : decode cX7_clear 24 = .ok (.iload_n 2, 1) := by decide +kernel
theorem dX7_clear_25 : decode cX7_clear 25 = .ok (.ifCond .le 18, 3) := by decide +kernel
theorem dX7_clear_43 : decode cX7_clear 43 = .ok (.iload_n 2, 1) := by decide +kernel
theorem dX7_clear_44 : decode cX7_clear 44 = .ok (.ireturn, 1) := by decide +kernel
set_option maxRecDepth 20000 in
theorem ggX7_look_X7_hasAct : GoodIn wsX7_look wsX7_hasAct := goodIn_r _ [10, 1, 11, 12, 13, 9, 14, 33, 34, 35, 36, 37, 38, 39, 40, 41, 42, 43, 44, 45, 46, 47, 48, 49, 50, 51, 52, 53, 54, 55] rfl (by decide +kernel)
set_option maxRecDepth 20000 in
theorem gX7_look_X7_hasAct : GoodIn wsX7_look (wsV RX7 129 RX7 yX7_hasAct wsX7_hasAct) := goodIn_app (goodIn_of _ (by decide +kernel)) ggX7_look_X7_hasAct
set_option maxRecDepth 20000 in
theorem ggX7_look_X7_refuse : GoodIn wsX7_look wsX7_refuse := goodIn_r _ [18, 19, 33, 34, 35, 36, 37, 38, 39, 40, 41, 42, 43, 44, 45, 46, 47, 48] rfl (by decide +kernel)
set_option maxRecDepth 20000 in
theorem gX7_look_X7_refuse : GoodIn wsX7_look (wsV RX7 91 RX7 yX7_refuse wsX7_refuse) := goodIn_app (goodIn_of _ (by decide +kernel)) ggX7_look_X7_refuse
theorem dX7_look_0 : decode cX7_look 0 = .ok (.aload_n 0, 1) := by decide +kernel
theorem dX7_look_1 : decode cX7_look 1 = .ok (.iload_n 1, 1) := by decide +kernel
theorem dX7_look_2 : decode cX7_look 2 = .ok (.iload_n 2, 1) := by decide +kernel
theorem dX7_look_3 : decode cX7_look 3 = .ok (.invokevirtual 129, 3) := by decide +kernel
theorem dX7_look_6 : decode cX7_look 6 = .ok (.ifCond .ne 10, 3) := by decide +kernel
theorem dX7_look_9 : decode cX7_look 9 = .ok (.aload_n 0, 1) := by decide +kernel
theorem dX7_look_10 : decode cX7_look 10 = .ok (.bipush (-3), 2) := by decide +kernel
theorem dX7_look_12 : decode cX7_look 12 = .ok (.invokevirtual 91, 3) := by decide +kernel
theorem dX7_look_15 : decode cX7_look 15 = .ok (.ireturn, 1) := by decide +kernel
set_option maxRecDepth 20000 in
theorem ggX7_buses_X7_refuse : GoodIn wsX7_buses wsX7_refuse := goodIn_r _ [9, 10, 17, 18, 19, 20, 21, 22, 23, 24, 25, 26, 27, 28, 29, 30, 31, 32] rfl (by decide +kernel)
set_option maxRecDepth 20000 in
theorem gX7_buses_X7_refuse : GoodIn wsX7_buses (wsV RX7 91 RX7 yX7_refuse wsX7_refuse) := goodIn_app (goodIn_of _ (by decide +kernel)) ggX7_buses_X7_refuse
set_option maxRecDepth 20000 in
theorem ggX7_buses_X3_dropAll : GoodIn wsX7_buses wsX3_dropAll := goodIn_r _ [15, 16, 33, 34, 35, 36, 37, 38, 39] rfl (by decide +kernel)
set_option maxRecDepth 20000 in
theorem gX7_buses_X3_dropAll : GoodIn wsX7_buses (wsV RX7 158 RX3 yX3_dropAll wsX3_dropAll) := goodIn_app (goodIn_of _ (by decide +kernel)) ggX7_buses_X3_dropAll
theorem dX7_buses_0 : decode cX7_buses 0 = .ok (.iload_n 1, 1) := by decide +kernel
theorem dX7_buses_1 : decode cX7_buses 1 = .ok (.iconst 1, 1) := by decide +kernel
theorem dX7_buses_2 : decode cX7_buses 2 = .ok (.if_icmp .lt 8, 3) := by decide +kernel
theorem dX7_buses_5 : decode cX7_buses 5 = .ok (.iload_n 1, 1) := by decide +kernel
theorem dX7_buses_6 : decode cX7_buses 6 = .ok (.iconst 3, 1) := by decide +kernel
theorem dX7_buses_7 : decode cX7_buses 7 = .ok (.if_icmp .le 10, 3) := by decide +kernel
theorem dX7_buses_10 : decode cX7_buses 10 = .ok (.aload_n 0, 1) := by decide +kernel
theorem dX7_buses_11 : decode cX7_buses 11 = .ok (.bipush (-6), 2) := by decide +kernel
theorem dX7_buses_13 : decode cX7_buses 13 = .ok (.invokevirtual 91, 3) := by decide +kernel
theorem dX7_buses_16 : decode cX7_buses 16 = .ok (.ireturn, 1) := by decide +kernel
theorem dX7_buses_17 : decode cX7_buses 17 = .ok (.aload_n 0, 1) := by decide +kernel
theorem dX7_buses_18 : decode cX7_buses 18 = .ok (.getfield 28, 3) := by decide +kernel
theorem dX7_buses_21 : decode cX7_buses 21 = .ok (.getfield 155, 3) := by decide +kernel
theorem dX7_buses_24 : decode cX7_buses 24 = .ok (.istore_n 2, 1) := by decide +kernel
theorem dX7_buses_25 : decode cX7_buses 25 = .ok (.iload_n 1, 1) := by decide +kernel
theorem dX7_buses_26 : decode cX7_buses 26 = .ok (.iload_n 2, 1) := by decide +kernel
theorem dX7_buses_27 : decode cX7_buses 27 = .ok (.if_icmp .eq 26, 3) := by decide +kernel
theorem dX7_buses_30 : decode cX7_buses 30 = .ok (.aload_n 0, 1) := by decide +kernel
theorem dX7_buses_31 : decode cX7_buses 31 = .ok (.getfield 28, 3) := by decide +kernel
theorem dX7_buses_34 : decode cX7_buses 34 = .ok (.iload_n 1, 1) := by decide +kernel
theorem dX7_buses_35 : decode cX7_buses 35 = .ok (.putfield 155, 3) := by decide +kernel
theorem dX7_buses_38 : decode cX7_buses 38 = .ok (.aload_n 0, 1) := by decide +kernel
theorem dX7_buses_39 : decode cX7_buses 39 = .ok (.getfield 28, 3) := by decide +kernel
theorem dX7_buses_42 : decode cX7_buses 42 = .ok (.invokevirtual 158, 3) := by decide +kernel
theorem dX7_buses_45 : decode cX7_buses 45 = .ok (.aload_n 0, 1) := by decide +kernel
theorem dX7_buses_46 : decode cX7_buses 46 = .ok (.getfield 37, 3) := by decide +kernel
theorem dX7_buses_49 : decode cX7_buses 49 = .ok (.iconst 0, 1) := by decide +kernel
theorem dX7_buses_50 : decode cX7_buses 50 = .ok (.putfield 161, 3) := by decide +kernel
theorem dX7_buses_53 : decode cX7_buses 53 = .ok (.iload_n 2, 1) := by decide +kernel
theorem dX7_buses_54 : decode cX7_buses 54 = .ok (.ireturn, 1) := by decide +kernel
set_option maxRecDepth 20000 in
theorem ggX7_needs_X7_hasAct : GoodIn wsX7_needs wsX7_hasAct := goodIn_r _ [6, 1, 7, 8, 9, 5, 10, 31, 32, 33, 34, 35, 36, 37, 38, 39, 40, 41, 42, 43, 44, 45, 46, 47, 48, 49, 50, 51, 52, 53] rfl (by decide +kernel)
set_option maxRecDepth 20000 in
theorem gX7_needs_X7_hasAct : GoodIn wsX7_needs (wsV RX7 129 RX7 yX7_hasAct wsX7_hasAct) := goodIn_app (goodIn_of _ (by decide +kernel)) ggX7_needs_X7_hasAct
set_option maxRecDepth 20000 in
theorem ggX7_needs_X7_refuse : GoodIn wsX7_needs wsX7_refuse := goodIn_r _ [14, 15, 31, 32, 33, 34, 35, 36, 37, 38, 39, 40, 41, 42, 43, 44, 45, 46] rfl (by decide +kernel)
set_option maxRecDepth 20000 in
theorem gX7_needs_X7_refuse : GoodIn wsX7_needs (wsV RX7 91 RX7 yX7_refuse wsX7_refuse) := goodIn_app (goodIn_of _ (by decide +kernel)) ggX7_needs_X7_refuse
theorem dX7_needs_0 : decode cX7_needs 0 = .ok (.aload_n 0, 1) := by decide +kernel
theorem dX7_needs_1 : decode cX7_needs 1 = .ok (.iload_n 1, 1) := by decide +kernel
theorem dX7_needs_2 : decode cX7_needs 2 = .ok (.iload_n 2, 1) := by decide +kernel
theorem dX7_needs_3 : decode cX7_needs 3 = .ok (.invokevirtual 129, 3) := by decide +kernel
theorem dX7_needs_6 : decode cX7_needs 6 = .ok (.ifCond .eq 12, 3) := by decide +kernel
theorem dX7_needs_18 : decode cX7_needs 18 = .ok (.aload_n 0, 1) := by decide +kernel
theorem dX7_needs_19 : decode cX7_needs 19 = .ok (.bipush (-3), 2) := by decide +kernel
theorem dX7_needs_21 : decode cX7_needs 21 = .ok (.invokevirtual 91, 3) := by decide +kernel
theorem dX7_needs_24 : decode cX7_needs 24 = .ok (.ireturn, 1) := by decide +kernel
set_option maxRecDepth 20000 in
theorem ggX7_pack_X7_isInstruction : GoodIn wsX7_pack wsX7_isInstruction := goodIn_r _ [6] rfl (by decide +kernel)
set_option maxRecDepth 20000 in
theorem gX7_pack_X7_isInstruction : GoodIn wsX7_pack (va_wsS RX7 111 yX7_isInstruction wsX7_isInstruction) := goodIn_app (goodIn_of _ (by decide +kernel)) ggX7_pack_X7_isInstruction
set_option maxRecDepth 20000 in
theorem ggX7_pack_X7_refuse : GoodIn wsX7_pack wsX7_refuse := goodIn_r _ [10, 11, 102, 103, 104, 105, 106, 107, 108, 109, 110, 111, 112, 113, 114, 115, 116, 117] rfl (by decide +kernel)
set_option maxRecDepth 20000 in
theorem gX7_pack_X7_refuse : GoodIn wsX7_pack (wsV RX7 91 RX7 yX7_refuse wsX7_refuse) := goodIn_app (goodIn_of _ (by decide +kernel)) ggX7_pack_X7_refuse
set_option maxRecDepth 20000 in
theorem ggX7_pack_X3_make : GoodIn wsX7_pack wsX3_make := goodIn_r _ [16, 17, 18, 19, 20, 21, 22, 23, 24, 25, 26, 27, 28, 29, 30, 31, 32, 33, 34, 35, 36, 37, 38, 39, 40, 41, 42, 43, 44, 5, 45, 46, 47, 48, 49, 50, 51, 52, 53, 54, 55, 56, 57, 58, 59, 60, 61, 62, 63, 64, 65, 66, 67, 68, 69, 70, 71, 72, 73, 74, 75, 76, 77, 78, 79, 80, 81, 82, 83, 84, 85, 86, 87, 88, 89, 90, 91, 92, 93, 94, 95, 96, 97, 98, 99, 100, 101, 118, 119, 120, 121, 122, 123, 124, 125, 126, 127, 128, 129, 130, 131, 132, 133, 134, 135, 136, 137, 138, 139, 140, 141] rfl (by decide +kernel)
set_option maxRecDepth 20000 in
theorem gX7_pack_X3_make : GoodIn wsX7_pack (wsV RX7 168 RX3 yX3_make wsX3_make) := goodIn_app (goodIn_of _ (by decide +kernel)) ggX7_pack_X3_make
theorem dX7_pack_0 : decode cX7_pack 0 = .ok (.iload_n 1, 1) := by decide +kernel
theorem dX7_pack_1 : decode cX7_pack 1 = .ok (.invokestatic 111, 3) := by decide +kernel
theorem dX7_pack_4 : decode cX7_pack 4 = .ok (.ifCond .ne 10, 3) := by decide +kernel
theorem dX7_pack_7 : decode cX7_pack 7 = .ok (.aload_n 0, 1) := by decide +kernel
theorem dX7_pack_8 : decode cX7_pack 8 = .ok (.bipush (-3), 2) := by decide +kernel
theorem dX7_pack_10 : decode cX7_pack 10 = .ok (.invokevirtual 91, 3) := by decide +kernel
theorem dX7_pack_13 : decode cX7_pack 13 = .ok (.ireturn, 1) := by decide +kernel
theorem dX7_pack_14 : decode cX7_pack 14 = .ok (.aload_n 0, 1) := by decide +kernel
theorem dX7_pack_15 : decode cX7_pack 15 = .ok (.getfield 28, 3) := by decide +kernel
theorem dX7_pack_18 : decode cX7_pack 18 = .ok (.iload_n 1, 1) := by decide +kernel
theorem dX7_pack_19 : decode cX7_pack 19 = .ok (.invokevirtual 168, 3) := by decide +kernel
theorem dX7_pack_22 : decode cX7_pack 22 = .ok (.aload_n 0, 1) := by decide +kernel
theorem dX7_pack_23 : decode cX7_pack 23 = .ok (.getfield 28, 3) := by decide +kernel
theorem dX7_pack_26 : decode cX7_pack 26 = .ok (.getfield 171, 3) := by decide +kernel
theorem dX7_pack_29 : decode cX7_pack 29 = .ok (.iload_n 1, 1) := by decide +kernel
theorem dX7_pack_30 : decode cX7_pack 30 = .ok (.iaload, 1) := by decide +kernel
theorem dX7_pack_31 : decode cX7_pack 31 = .ok (.ireturn, 1) := by decide +kernel
set_option maxRecDepth 20000 in
theorem ggX7_word_X7_hasAct : GoodIn wsX7_word wsX7_hasAct := goodIn_r _ [8, 9, 10, 11, 12, 7, 13, 22, 23, 24, 25, 26, 27, 28, 29, 30, 31, 32, 33, 34, 35, 36, 37, 45, 46, 47, 48, 49, 50, 51] rfl (by decide +kernel)
set_option maxRecDepth 20000 in
theorem gX7_word_X7_hasAct : GoodIn wsX7_word (wsV RX7 129 RX7 yX7_hasAct wsX7_hasAct) := goodIn_app (goodIn_of _ (by decide +kernel)) ggX7_word_X7_hasAct
set_option maxRecDepth 20000 in
theorem ggX7_word_X7_refuse : GoodIn wsX7_word wsX7_refuse := goodIn_r _ [17, 18, 22, 23, 24, 25, 26, 27, 28, 29, 30, 31, 32, 33, 34, 35, 36, 37] rfl (by decide +kernel)
set_option maxRecDepth 20000 in
theorem gX7_word_X7_refuse : GoodIn wsX7_word (wsV RX7 91 RX7 yX7_refuse wsX7_refuse) := goodIn_app (goodIn_of _ (by decide +kernel)) ggX7_word_X7_refuse
theorem dX7_word_0 : decode cX7_word 0 = .ok (.aload_n 0, 1) := by decide +kernel
theorem dX7_word_1 : decode cX7_word 1 = .ok (.iload_n 1, 1) := by decide +kernel
theorem dX7_word_2 : decode cX7_word 2 = .ok (.iload_n 2, 1) := by decide +kernel
theorem dX7_word_3 : decode cX7_word 3 = .ok (.invokevirtual 129, 3) := by decide +kernel
theorem dX7_word_6 : decode cX7_word 6 = .ok (.ifCond .ne 10, 3) := by decide +kernel
theorem dX7_word_9 : decode cX7_word 9 = .ok (.aload_n 0, 1) := by decide +kernel
theorem dX7_word_10 : decode cX7_word 10 = .ok (.bipush (-3), 2) := by decide +kernel
theorem dX7_word_12 : decode cX7_word 12 = .ok (.invokevirtual 91, 3) := by decide +kernel
theorem dX7_word_15 : decode cX7_word 15 = .ok (.ireturn, 1) := by decide +kernel
set_option maxRecDepth 20000 in
theorem ggX7_why_X7_hasAct : GoodIn wsX7_why wsX7_hasAct := goodIn_r _ [7, 8, 9, 10, 11, 6, 12, 39, 40, 41, 42, 43, 44, 45, 46, 47, 48, 49, 50, 51, 52, 53, 54, 62, 63, 64, 65, 66, 67, 68] rfl (by decide +kernel)
set_option maxRecDepth 20000 in
theorem gX7_why_X7_hasAct : GoodIn wsX7_why (wsV RX7 129 RX7 yX7_hasAct wsX7_hasAct) := goodIn_app (goodIn_of _ (by decide +kernel)) ggX7_why_X7_hasAct
set_option maxRecDepth 20000 in
theorem ggX7_why_X7_refuse : GoodIn wsX7_why wsX7_refuse := goodIn_r _ [16, 17, 39, 40, 41, 42, 43, 44, 45, 46, 47, 48, 49, 50, 51, 52, 53, 54] rfl (by decide +kernel)
set_option maxRecDepth 20000 in
theorem gX7_why_X7_refuse : GoodIn wsX7_why (wsV RX7 91 RX7 yX7_refuse wsX7_refuse) := goodIn_app (goodIn_of _ (by decide +kernel)) ggX7_why_X7_refuse
theorem dX7_why_0 : decode cX7_why 0 = .ok (.aload_n 0, 1) := by decide +kernel
theorem dX7_why_1 : decode cX7_why 1 = .ok (.iload_n 1, 1) := by decide +kernel
theorem dX7_why_2 : decode cX7_why 2 = .ok (.iload_n 2, 1) := by decide +kernel
theorem dX7_why_3 : decode cX7_why 3 = .ok (.invokevirtual 129, 3) := by decide +kernel
theorem dX7_why_6 : decode cX7_why 6 = .ok (.ifCond .ne 10, 3) := by decide +kernel
theorem dX7_why_9 : decode cX7_why 9 = .ok (.aload_n 0, 1) := by decide +kernel
theorem dX7_why_10 : decode cX7_why 10 = .ok (.bipush (-3), 2) := by decide +kernel
theorem dX7_why_12 : decode cX7_why 12 = .ok (.invokevirtual 91, 3) := by decide +kernel
theorem dX7_why_15 : decode cX7_why 15 = .ok (.ireturn, 1) := by decide +kernel
set_option maxRecDepth 20000 in
theorem ggX7_store_X3_make : GoodIn wsX7_store wsX3_make := goodIn_r _ [10, 11, 12, 13, 14, 15, 16, 17, 18, 19, 20, 21, 22, 23, 24, 25, 26, 27, 28, 29, 30, 31, 32, 33, 34, 35, 36, 37, 38, 39, 40, 41, 42, 43, 44, 45, 46, 47, 48, 49, 50, 51, 52, 53, 54, 55, 56, 57, 58, 59, 60, 61, 62, 63, 64, 65, 66, 67, 68, 69, 70, 71, 72, 73, 74, 75, 76, 77, 78, 79, 80, 81, 82, 83, 84, 85, 86, 87, 88, 89, 90, 91, 92, 93, 94, 95, 96, 204, 205, 206, 207, 208, 209, 210, 211, 212, 213, 214, 215, 216, 217, 218, 219, 220, 221, 222, 223, 224, 225, 226, 227] rfl (by decide +kernel)
set_option maxRecDepth 20000 in
theorem gX7_store_X3_make : GoodIn wsX7_store (wsV RX7 168 RX3 yX3_make wsX3_make) := goodIn_app (goodIn_of _ (by decide +kernel)) ggX7_store_X3_make
set_option maxRecDepth 20000 in
theorem ggX7_store_X4_make : GoodIn wsX7_store wsX4_make := goodIn_r _ [101, 102, 103, 104, 105, 106, 107, 108, 38, 39, 40, 109, 110, 111, 100, 112, 113, 114, 115, 116, 117, 118, 119, 120, 121, 77, 78, 79, 80, 81, 82, 83, 84, 122, 123, 124, 125, 126, 127, 44, 128, 46, 129, 130, 131, 195, 196, 197, 198, 199, 200, 201, 202, 203, 204, 205, 206, 207, 208, 209, 210, 221, 222, 223, 224, 225, 226, 227] rfl (by decide +kernel)
set_option maxRecDepth 20000 in
theorem gX7_store_X4_make : GoodIn wsX7_store (wsV RX7 181 RX4 yX4_make wsX4_make) := goodIn_app (goodIn_of _ (by decide +kernel)) ggX7_store_X4_make
set_option maxRecDepth 20000 in
theorem ggX7_store_X1_make : GoodIn wsX7_store wsX1_make := goodIn_r _ [136, 137, 138, 139, 140, 141, 142, 143, 144, 145, 146, 147, 35, 36, 37, 148, 149, 150, 135, 151, 152, 83, 39, 84, 38, 40, 153, 42, 43, 44, 45, 46, 154, 155, 156, 157, 158, 159, 160, 126, 127, 128, 129, 130, 131, 161, 162, 163, 164, 165, 166, 167, 168, 169, 170, 171, 55, 56, 57, 172, 173, 174, 175, 176, 177, 178, 228, 229, 230, 231, 232, 233, 234, 235, 236, 237, 238, 239, 195, 196, 197, 198, 199, 200, 201, 202, 203, 221, 222, 223, 224, 225, 226, 227] rfl (by decide +kernel)
set_option maxRecDepth 20000 in
theorem gX7_store_X1_make : GoodIn wsX7_store (wsV RX7 183 RX1 yX1_make wsX1_make) := goodIn_app (goodIn_of _ (by decide +kernel)) ggX7_store_X1_make
theorem dX7_store_0 : decode cX7_store 0 = .ok (.aload_n 0, 1) := by decide +kernel
theorem dX7_store_1 : decode cX7_store 1 = .ok (.getfield 37, 3) := by decide +kernel
theorem dX7_store_4 : decode cX7_store 4 = .ok (.getfield 161, 3) := by decide +kernel
theorem dX7_store_7 : decode cX7_store 7 = .ok (.ifCond .ne 39, 3) := by decide +kernel
theorem dX7_store_10 : decode cX7_store 10 = .ok (.iconst 0, 1) := by decide +kernel
theorem dX7_store_11 : decode cX7_store 11 = .ok (.istore_n 1, 1) := by decide +kernel
theorem dX7_store_12 : decode cX7_store 12 = .ok (.iload_n 1, 1) := by decide +kernel
theorem dX7_store_13 : decode cX7_store 13 = .ok (.bipush 12, 2) := by decide +kernel
theorem dX7_store_15 : decode cX7_store 15 = .ok (.if_icmp .ge 17, 3) := by decide +kernel
theorem dX7_store_18 : decode cX7_store 18 = .ok (.aload_n 0, 1) := by decide +kernel
theorem dX7_store_19 : decode cX7_store 19 = .ok (.getfield 28, 3) := by decide +kernel
theorem dX7_store_22 : decode cX7_store 22 = .ok (.iload_n 1, 1) := by decide +kernel
theorem dX7_store_23 : decode cX7_store 23 = .ok (.invokevirtual 168, 3) := by decide +kernel
theorem dX7_store_26 : decode cX7_store 26 = .ok (.iinc 1 1, 3) := by decide +kernel
theorem dX7_store_29 : decode cX7_store 29 = .ok (.goto (-17), 3) := by decide +kernel
theorem dX7_store_32 : decode cX7_store 32 = .ok (.aload_n 0, 1) := by decide +kernel
theorem dX7_store_33 : decode cX7_store 33 = .ok (.getfield 37, 3) := by decide +kernel
theorem dX7_store_36 : decode cX7_store 36 = .ok (.invokevirtual 181, 3) := by decide +kernel
theorem dX7_store_39 : decode cX7_store 39 = .ok (.aload_n 0, 1) := by decide +kernel
theorem dX7_store_40 : decode cX7_store 40 = .ok (.getfield 46, 3) := by decide +kernel
theorem dX7_store_43 : decode cX7_store 43 = .ok (.invokevirtual 183, 3) := by decide +kernel
theorem dX7_store_46 : decode cX7_store 46 = .ok (.aload_n 0, 1) := by decide +kernel
theorem dX7_store_47 : decode cX7_store 47 = .ok (.getfield 37, 3) := by decide +kernel
theorem dX7_store_50 : decode cX7_store 50 = .ok (.getfield 184, 3) := by decide +kernel
theorem dX7_store_53 : decode cX7_store 53 = .ok (.ireturn, 1) := by decide +kernel
set_option maxRecDepth 20000 in
theorem ggX7_place_X7_isInstruction : GoodIn wsX7_place wsX7_isInstruction := goodIn_r _ [9] rfl (by decide +kernel)
set_option maxRecDepth 20000 in
theorem gX7_place_X7_isInstruction : GoodIn wsX7_place (va_wsS RX7 111 yX7_isInstruction wsX7_isInstruction) := goodIn_app (goodIn_of _ (by decide +kernel)) ggX7_place_X7_isInstruction
set_option maxRecDepth 20000 in
theorem ggX7_place_X7_refuse : GoodIn wsX7_place wsX7_refuse := goodIn_r _ [13, 14, 18, 19, 20, 21, 22, 23, 24, 25, 26, 27, 28, 29, 30, 31, 32, 33] rfl (by decide +kernel)
set_option maxRecDepth 20000 in
theorem gX7_place_X7_refuse : GoodIn wsX7_place (wsV RX7 91 RX7 yX7_refuse wsX7_refuse) := goodIn_app (goodIn_of _ (by decide +kernel)) ggX7_place_X7_refuse
theorem dX7_place_0 : decode cX7_place 0 = .ok (.iload_n 1, 1) := by decide +kernel
theorem dX7_place_1 : decode cX7_place 1 = .ok (.invokestatic 111, 3) := by decide +kernel
theorem dX7_place_4 : decode cX7_place 4 = .ok (.ifCond .ne 10, 3) := by decide +kernel
theorem dX7_place_7 : decode cX7_place 7 = .ok (.aload_n 0, 1) := by decide +kernel
theorem dX7_place_8 : decode cX7_place 8 = .ok (.bipush (-3), 2) := by decide +kernel
theorem dX7_place_10 : decode cX7_place 10 = .ok (.invokevirtual 91, 3) := by decide +kernel
theorem dX7_place_13 : decode cX7_place 13 = .ok (.ireturn, 1) := by decide +kernel
theorem dX7_place_14 : decode cX7_place 14 = .ok (.aload_n 0, 1) := by decide +kernel
theorem dX7_place_15 : decode cX7_place 15 = .ok (.getfield 37, 3) := by decide +kernel
theorem dX7_place_18 : decode cX7_place 18 = .ok (.getfield 161, 3) := by decide +kernel
theorem dX7_place_21 : decode cX7_place 21 = .ok (.ifCond .ne 10, 3) := by decide +kernel
theorem dX7_place_24 : decode cX7_place 24 = .ok (.aload_n 0, 1) := by decide +kernel
theorem dX7_place_25 : decode cX7_place 25 = .ok (.bipush (-2), 2) := by decide +kernel
theorem dX7_place_27 : decode cX7_place 27 = .ok (.invokevirtual 91, 3) := by decide +kernel
theorem dX7_place_30 : decode cX7_place 30 = .ok (.ireturn, 1) := by decide +kernel
set_option maxRecDepth 20000 in
theorem ggX7_at_X7_refuse : GoodIn wsX7_at wsX7_refuse := goodIn_r _ [11, 12, 20, 21, 22, 23, 24, 25, 26, 27, 28, 29, 30, 31, 32, 33, 34, 35] rfl (by decide +kernel)
set_option maxRecDepth 20000 in
theorem gX7_at_X7_refuse : GoodIn wsX7_at (wsV RX7 91 RX7 yX7_refuse wsX7_refuse) := goodIn_app (goodIn_of _ (by decide +kernel)) ggX7_at_X7_refuse
theorem dX7_at_0 : decode cX7_at 0 = .ok (.aload_n 0, 1) := by decide +kernel
theorem dX7_at_1 : decode cX7_at 1 = .ok (.getfield 37, 3) := by decide +kernel
theorem dX7_at_4 : decode cX7_at 4 = .ok (.getfield 161, 3) := by decide +kernel
theorem dX7_at_7 : decode cX7_at 7 = .ok (.ifCond .ne 10, 3) := by decide +kernel
theorem dX7_at_10 : decode cX7_at 10 = .ok (.aload_n 0, 1) := by decide +kernel
theorem dX7_at_11 : decode cX7_at 11 = .ok (.bipush (-2), 2) := by decide +kernel
theorem dX7_at_13 : decode cX7_at 13 = .ok (.invokevirtual 91, 3) := by decide +kernel
theorem dX7_at_16 : decode cX7_at 16 = .ok (.ireturn, 1) := by decide +kernel
set_option maxRecDepth 20000 in
theorem ggX7_group_X7_refuse : GoodIn wsX7_group wsX7_refuse := goodIn_r _ [9, 10, 11, 12, 13, 14, 15, 16, 17, 18, 19, 20, 21, 22, 23, 24, 25, 26] rfl (by decide +kernel)
set_option maxRecDepth 20000 in
theorem gX7_group_X7_refuse : GoodIn wsX7_group (wsV RX7 91 RX7 yX7_refuse wsX7_refuse) := goodIn_app (goodIn_of _ (by decide +kernel)) ggX7_group_X7_refuse
theorem dX7_group_0 : decode cX7_group 0 = .ok (.iload_n 1, 1) := by decide +kernel
theorem dX7_group_1 : decode cX7_group 1 = .ok (.ifCond .lt 9, 3) := by decide +kernel
theorem dX7_group_4 : decode cX7_group 4 = .ok (.iload_n 1, 1) := by decide +kernel
theorem dX7_group_5 : decode cX7_group 5 = .ok (.bipush 7, 2) := by decide +kernel
theorem dX7_group_7 : decode cX7_group 7 = .ok (.if_icmp .lt 10, 3) := by decide +kernel
theorem dX7_group_10 : decode cX7_group 10 = .ok (.aload_n 0, 1) := by decide +kernel
theorem dX7_group_11 : decode cX7_group 11 = .ok (.bipush (-3), 2) := by decide +kernel
theorem dX7_group_13 : decode cX7_group 13 = .ok (.invokevirtual 91, 3) := by decide +kernel
theorem dX7_group_16 : decode cX7_group 16 = .ok (.ireturn, 1) := by decide +kernel
theorem dX7_group_17 : decode cX7_group 17 = .ok (.aload_n 0, 1) := by decide +kernel
theorem dX7_group_18 : decode cX7_group 18 = .ok (.getfield 37, 3) := by decide +kernel
theorem dX7_group_21 : decode cX7_group 21 = .ok (.getfield 161, 3) := by decide +kernel
theorem dX7_group_24 : decode cX7_group 24 = .ok (.ifCond .ne 10, 3) := by decide +kernel
theorem dX7_group_27 : decode cX7_group 27 = .ok (.aload_n 0, 1) := by decide +kernel
theorem dX7_group_28 : decode cX7_group 28 = .ok (.bipush (-2), 2) := by decide +kernel
theorem dX7_group_30 : decode cX7_group 30 = .ok (.invokevirtual 91, 3) := by decide +kernel
theorem dX7_group_33 : decode cX7_group 33 = .ok (.ireturn, 1) := by decide +kernel
set_option maxRecDepth 20000 in
theorem ggX7_narrow_X7_refuse : GoodIn wsX7_narrow wsX7_refuse := goodIn_r _ [12, 13, 14, 15, 16, 17, 18, 19, 20, 21, 22, 23, 24, 25, 26, 27, 28, 29] rfl (by decide +kernel)
set_option maxRecDepth 20000 in
theorem gX7_narrow_X7_refuse : GoodIn wsX7_narrow (wsV RX7 91 RX7 yX7_refuse wsX7_refuse) := goodIn_app (goodIn_of _ (by decide +kernel)) ggX7_narrow_X7_refuse
theorem dX7_narrow_0 : decode cX7_narrow 0 = .ok (.aload_n 0, 1) := by decide +kernel
theorem dX7_narrow_1 : decode cX7_narrow 1 = .ok (.getfield 37, 3) := by decide +kernel
theorem dX7_narrow_4 : decode cX7_narrow 4 = .ok (.getfield 161, 3) := by decide +kernel
theorem dX7_narrow_7 : decode cX7_narrow 7 = .ok (.ifCond .ne 10, 3) := by decide +kernel
theorem dX7_narrow_10 : decode cX7_narrow 10 = .ok (.aload_n 0, 1) := by decide +kernel
theorem dX7_narrow_11 : decode cX7_narrow 11 = .ok (.bipush (-2), 2) := by decide +kernel
theorem dX7_narrow_13 : decode cX7_narrow 13 = .ok (.invokevirtual 91, 3) := by decide +kernel
theorem dX7_narrow_16 : decode cX7_narrow 16 = .ok (.ireturn, 1) := by decide +kernel
set_option maxRecDepth 20000 in
theorem ggX7_run_X7_isInstruction : GoodIn wsX7_run wsX7_isInstruction := goodIn_r _ [6] rfl (by decide +kernel)
set_option maxRecDepth 20000 in
theorem gX7_run_X7_isInstruction : GoodIn wsX7_run (va_wsS RX7 111 yX7_isInstruction wsX7_isInstruction) := goodIn_app (goodIn_of _ (by decide +kernel)) ggX7_run_X7_isInstruction
set_option maxRecDepth 20000 in
theorem ggX7_run_X7_refuse : GoodIn wsX7_run wsX7_refuse := goodIn_r _ [10, 11, 187, 188, 189, 190, 191, 192, 193, 194, 195, 196, 197, 198, 199, 200, 201, 202] rfl (by decide +kernel)
set_option maxRecDepth 20000 in
theorem gX7_run_X7_refuse : GoodIn wsX7_run (wsV RX7 91 RX7 yX7_refuse wsX7_refuse) := goodIn_app (goodIn_of _ (by decide +kernel)) ggX7_run_X7_refuse
set_option maxRecDepth 20000 in
theorem ggX7_run_X3_make : GoodIn wsX7_run wsX3_make := goodIn_r _ [16, 17, 18, 19, 20, 21, 22, 23, 24, 25, 26, 27, 28, 29, 30, 31, 32, 33, 34, 35, 36, 37, 38, 39, 40, 41, 42, 43, 44, 5, 45, 46, 47, 48, 49, 50, 51, 52, 53, 54, 55, 56, 57, 58, 59, 60, 61, 62, 63, 64, 65, 66, 67, 68, 69, 70, 71, 72, 73, 74, 75, 76, 77, 78, 79, 80, 81, 82, 83, 84, 85, 86, 87, 88, 89, 90, 91, 92, 93, 94, 95, 96, 97, 98, 99, 100, 101, 203, 204, 205, 206, 207, 208, 209, 210, 211, 212, 213, 214, 215, 216, 217, 218, 219, 220, 221, 222, 223, 224, 225, 226] rfl (by decide +kernel)
set_option maxRecDepth 20000 in
theorem gX7_run_X3_make : GoodIn wsX7_run (wsV RX7 168 RX3 yX3_make wsX3_make) := goodIn_app (goodIn_of _ (by decide +kernel)) ggX7_run_X3_make
set_option maxRecDepth 20000 in
theorem ggX7_run_X0_perform : GoodIn wsX7_run wsX0_perform := goodIn_r _ [106, 107, 108, 109, 110, 111, 112, 113, 114, 115, 116, 117, 118, 119, 120, 121, 44, 5, 45, 122, 123, 124, 105, 125, 126, 127, 128, 88, 89, 129, 130, 131, 132, 133, 134, 135, 136, 137, 138, 139, 140, 141, 142, 143, 144, 145, 146, 147, 148, 149, 150, 151, 152, 153, 154, 155, 156, 157, 158, 159, 160, 161, 162, 163, 164, 165, 166, 167, 168, 169, 170, 171, 172, 173, 174, 175, 176, 177, 178, 82, 83, 84, 85, 86, 87, 227, 228, 229, 230, 231, 232, 233, 234, 235, 236, 203, 204, 205, 206, 207, 208, 209, 220, 221, 222, 223, 224, 225, 226, 237, 238, 239, 240, 241] rfl (by decide +kernel)
set_option maxRecDepth 20000 in
theorem gX7_run_X0_perform : GoodIn wsX7_run (wsV RX7 216 RX0 yX0_perform wsX0_perform) := goodIn_app (goodIn_of _ (by decide +kernel)) ggX7_run_X0_perform
set_option maxRecDepth 20000 in
theorem ggX7_run_X7_keepTold : GoodIn wsX7_run wsX7_keepTold := goodIn_r _ [182, 183, 2, 184, 185, 186, 187, 188, 189, 190, 191, 192, 193, 194, 195, 196, 197, 198, 199, 200, 201, 202, 227, 228, 229, 230, 231, 232, 233, 234, 235, 236] rfl (by decide +kernel)
set_option maxRecDepth 20000 in
theorem gX7_run_X7_keepTold : GoodIn wsX7_run (wsV RX7 220 RX7 yX7_keepTold wsX7_keepTold) := goodIn_app (goodIn_of _ (by decide +kernel)) ggX7_run_X7_keepTold
theorem dX7_run_0 : decode cX7_run 0 = .ok (.iload_n 1, 1) := by decide +kernel
theorem dX7_run_1 : decode cX7_run 1 = .ok (.invokestatic 111, 3) := by decide +kernel
theorem dX7_run_4 : decode cX7_run 4 = .ok (.ifCond .ne 10, 3) := by decide +kernel
theorem dX7_run_7 : decode cX7_run 7 = .ok (.aload_n 0, 1) := by decide +kernel
theorem dX7_run_8 : decode cX7_run 8 = .ok (.bipush (-3), 2) := by decide +kernel
theorem dX7_run_10 : decode cX7_run 10 = .ok (.invokevirtual 91, 3) := by decide +kernel
theorem dX7_run_13 : decode cX7_run 13 = .ok (.ireturn, 1) := by decide +kernel
theorem dX7_run_14 : decode cX7_run 14 = .ok (.iload_n 2, 1) := by decide +kernel
theorem dX7_run_15 : decode cX7_run 15 = .ok (.ifCond .eq 11, 3) := by decide +kernel
theorem dX7_run_18 : decode cX7_run 18 = .ok (.aload_n 0, 1) := by decide +kernel
theorem dX7_run_19 : decode cX7_run 19 = .ok (.getfield 28, 3) := by decide +kernel
theorem dX7_run_22 : decode cX7_run 22 = .ok (.iload_n 1, 1) := by decide +kernel
theorem dX7_run_23 : decode cX7_run 23 = .ok (.invokevirtual 168, 3) := by decide +kernel
theorem dX7_run_26 : decode cX7_run 26 = .ok (.aload_n 0, 1) := by decide +kernel
theorem dX7_run_27 : decode cX7_run 27 = .ok (.getfield 55, 3) := by decide +kernel
theorem dX7_run_30 : decode cX7_run 30 = .ok (.iload_n 1, 1) := by decide +kernel
theorem dX7_run_31 : decode cX7_run 31 = .ok (.iload_n 2, 1) := by decide +kernel
theorem dX7_run_32 : decode cX7_run 32 = .ok (.invokevirtual 216, 3) := by decide +kernel
theorem dX7_run_35 : decode cX7_run 35 = .ok (.istore_n 3, 1) := by decide +kernel
theorem dX7_run_36 : decode cX7_run 36 = .ok (.aload_n 0, 1) := by decide +kernel
theorem dX7_run_37 : decode cX7_run 37 = .ok (.invokevirtual 220, 3) := by decide +kernel
theorem dX7_run_40 : decode cX7_run 40 = .ok (.iload_n 3, 1) := by decide +kernel
theorem dX7_run_41 : decode cX7_run 41 = .ok (.ireturn, 1) := by decide +kernel
set_option maxRecDepth 20000 in
theorem ggX7_told_X7_refuse : GoodIn wsX7_told wsX7_refuse := goodIn_r _ [6, 7, 8, 9, 10, 11, 12, 13, 14, 15, 16, 17, 18, 19, 20, 21, 22, 23] rfl (by decide +kernel)
set_option maxRecDepth 20000 in
theorem gX7_told_X7_refuse : GoodIn wsX7_told (wsV RX7 91 RX7 yX7_refuse wsX7_refuse) := goodIn_app (goodIn_of _ (by decide +kernel)) ggX7_told_X7_refuse
theorem dX7_told_0 : decode cX7_told 0 = .ok (.iload_n 1, 1) := by decide +kernel
theorem dX7_told_1 : decode cX7_told 1 = .ok (.ifCond .lt 12, 3) := by decide +kernel
theorem dX7_told_4 : decode cX7_told 4 = .ok (.iload_n 1, 1) := by decide +kernel
theorem dX7_told_5 : decode cX7_told 5 = .ok (.aload_n 0, 1) := by decide +kernel
theorem dX7_told_6 : decode cX7_told 6 = .ok (.getfield 59, 3) := by decide +kernel
theorem dX7_told_9 : decode cX7_told 9 = .ok (.arraylength, 1) := by decide +kernel
theorem dX7_told_10 : decode cX7_told 10 = .ok (.if_icmp .lt 10, 3) := by decide +kernel
theorem dX7_told_13 : decode cX7_told 13 = .ok (.aload_n 0, 1) := by decide +kernel
theorem dX7_told_14 : decode cX7_told 14 = .ok (.bipush (-6), 2) := by decide +kernel
theorem dX7_told_16 : decode cX7_told 16 = .ok (.invokevirtual 91, 3) := by decide +kernel
theorem dX7_told_19 : decode cX7_told 19 = .ok (.ireturn, 1) := by decide +kernel
theorem dX7_told_20 : decode cX7_told 20 = .ok (.aload_n 0, 1) := by decide +kernel
theorem dX7_told_21 : decode cX7_told 21 = .ok (.getfield 59, 3) := by decide +kernel
theorem dX7_told_24 : decode cX7_told 24 = .ok (.iload_n 1, 1) := by decide +kernel
theorem dX7_told_25 : decode cX7_told 25 = .ok (.iaload, 1) := by decide +kernel
theorem dX7_told_26 : decode cX7_told 26 = .ok (.ireturn, 1) := by decide +kernel
set_option maxRecDepth 20000 in
theorem ggX7_beside_X7_isInstruction : GoodIn wsX7_beside wsX7_isInstruction := goodIn_r _ [7] rfl (by decide +kernel)
set_option maxRecDepth 20000 in
theorem gX7_beside_X7_isInstruction : GoodIn wsX7_beside (va_wsS RX7 111 yX7_isInstruction wsX7_isInstruction) := goodIn_app (goodIn_of _ (by decide +kernel)) ggX7_beside_X7_isInstruction
set_option maxRecDepth 20000 in
theorem ggX7_beside_X7_refuse : GoodIn wsX7_beside wsX7_refuse := goodIn_r _ [11, 12, 193, 194, 195, 196, 197, 198, 199, 200, 201, 202, 203, 204, 205, 206, 207, 208] rfl (by decide +kernel)
set_option maxRecDepth 20000 in
theorem gX7_beside_X7_refuse : GoodIn wsX7_beside (wsV RX7 91 RX7 yX7_refuse wsX7_refuse) := goodIn_app (goodIn_of _ (by decide +kernel)) ggX7_beside_X7_refuse
set_option maxRecDepth 20000 in
theorem ggX7_beside_X3_make : GoodIn wsX7_beside wsX3_make := goodIn_r _ [17, 18, 19, 20, 21, 22, 23, 24, 25, 26, 27, 28, 29, 30, 31, 32, 33, 34, 35, 36, 37, 38, 39, 40, 41, 42, 43, 44, 45, 6, 46, 47, 48, 49, 50, 51, 52, 53, 54, 55, 56, 57, 58, 59, 60, 61, 62, 63, 64, 65, 66, 67, 68, 69, 70, 71, 72, 73, 74, 75, 76, 77, 78, 79, 80, 81, 82, 83, 84, 85, 86, 87, 88, 89, 90, 91, 92, 93, 94, 95, 96, 97, 98, 99, 100, 101, 102, 209, 210, 211, 212, 213, 214, 215, 216, 217, 218, 219, 220, 221, 222, 223, 224, 225, 226, 227, 228, 229, 230, 231, 232] rfl (by decide +kernel)
set_option maxRecDepth 20000 in
theorem gX7_beside_X3_make : GoodIn wsX7_beside (wsV RX7 168 RX3 yX3_make wsX3_make) := goodIn_app (goodIn_of _ (by decide +kernel)) ggX7_beside_X3_make
set_option maxRecDepth 20000 in
theorem ggX7_beside_X0_endsAlike : GoodIn wsX7_beside wsX0_endsAlike := goodIn_r _ [107, 108, 109, 110, 111, 112, 113, 114, 115, 116, 117, 106, 118, 119, 120, 121, 122, 123, 124, 125, 126, 127, 128, 129, 130, 131, 132, 45, 6, 46, 133, 134, 135, 136, 137, 138, 139, 89, 90, 140, 141, 142, 143, 144, 145, 146, 147, 148, 149, 150, 151, 152, 153, 154, 155, 156, 157, 158, 159, 160, 161, 162, 163, 164, 165, 166, 167, 168, 169, 170, 171, 172, 173, 174, 175, 176, 177, 178, 179, 180, 181, 182, 183, 184, 185, 186, 187, 188, 83, 84, 85, 86, 87, 88, 189, 190, 191, 192, 233, 234, 235, 236, 237, 238, 239, 240, 241, 242, 243, 244, 245, 246, 247, 209, 210, 211, 212, 213, 214, 215, 226, 227, 228, 229, 230, 231, 232] rfl (by decide +kernel)
set_option maxRecDepth 20000 in
theorem gX7_beside_X0_endsAlike : GoodIn wsX7_beside (wsV RX7 223 RX0 yX0_endsAlike wsX0_endsAlike) := goodIn_app (goodIn_of _ (by decide +kernel)) ggX7_beside_X0_endsAlike
theorem dX7_beside_0 : decode cX7_beside 0 = .ok (.iload_n 1, 1) := by decide +kernel
theorem dX7_beside_1 : decode cX7_beside 1 = .ok (.invokestatic 111, 3) := by decide +kernel
theorem dX7_beside_4 : decode cX7_beside 4 = .ok (.ifCond .ne 10, 3) := by decide +kernel
theorem dX7_beside_7 : decode cX7_beside 7 = .ok (.aload_n 0, 1) := by decide +kernel
theorem dX7_beside_8 : decode cX7_beside 8 = .ok (.bipush (-3), 2) := by decide +kernel
theorem dX7_beside_10 : decode cX7_beside 10 = .ok (.invokevirtual 91, 3) := by decide +kernel
theorem dX7_beside_13 : decode cX7_beside 13 = .ok (.ireturn, 1) := by decide +kernel
theorem dX7_beside_14 : decode cX7_beside 14 = .ok (.aload_n 0, 1) := by decide +kernel
theorem dX7_beside_15 : decode cX7_beside 15 = .ok (.getfield 28, 3) := by decide +kernel
theorem dX7_beside_18 : decode cX7_beside 18 = .ok (.getfield 172, 3) := by decide +kernel
theorem dX7_beside_21 : decode cX7_beside 21 = .ok (.iload_n 1, 1) := by decide +kernel
theorem dX7_beside_22 : decode cX7_beside 22 = .ok (.baload, 1) := by decide +kernel
theorem dX7_beside_23 : decode cX7_beside 23 = .ok (.istore_n 2, 1) := by decide +kernel
theorem dX7_beside_24 : decode cX7_beside 24 = .ok (.aload_n 0, 1) := by decide +kernel
theorem dX7_beside_25 : decode cX7_beside 25 = .ok (.getfield 28, 3) := by decide +kernel
theorem dX7_beside_28 : decode cX7_beside 28 = .ok (.iload_n 1, 1) := by decide +kernel
theorem dX7_beside_29 : decode cX7_beside 29 = .ok (.invokevirtual 168, 3) := by decide +kernel
theorem dX7_beside_32 : decode cX7_beside 32 = .ok (.aload_n 0, 1) := by decide +kernel
theorem dX7_beside_33 : decode cX7_beside 33 = .ok (.getfield 55, 3) := by decide +kernel
theorem dX7_beside_36 : decode cX7_beside 36 = .ok (.iload_n 1, 1) := by decide +kernel
theorem dX7_beside_37 : decode cX7_beside 37 = .ok (.invokevirtual 223, 3) := by decide +kernel
theorem dX7_beside_40 : decode cX7_beside 40 = .ok (.istore_n 3, 1) := by decide +kernel
theorem dX7_beside_41 : decode cX7_beside 41 = .ok (.aload_n 0, 1) := by decide +kernel
theorem dX7_beside_42 : decode cX7_beside 42 = .ok (.getfield 28, 3) := by decide +kernel
theorem dX7_beside_45 : decode cX7_beside 45 = .ok (.getfield 172, 3) := by decide +kernel
theorem dX7_beside_48 : decode cX7_beside 48 = .ok (.iload_n 1, 1) := by decide +kernel
theorem dX7_beside_49 : decode cX7_beside 49 = .ok (.iload_n 2, 1) := by decide +kernel
theorem dX7_beside_50 : decode cX7_beside 50 = .ok (.bastore, 1) := by decide +kernel
theorem dX7_beside_51 : decode cX7_beside 51 = .ok (.iload_n 3, 1) := by decide +kernel
theorem dX7_beside_52 : decode cX7_beside 52 = .ok (.ifCond .eq 7, 3) := by decide +kernel
theorem dX7_beside_55 : decode cX7_beside 55 = .ok (.iconst 0, 1) := by decide +kernel
theorem dX7_beside_56 : decode cX7_beside 56 = .ok (.goto 4, 3) := by decide +kernel
theorem dX7_beside_60 : decode cX7_beside 60 = .ok (.ireturn, 1) := by decide +kernel
set_option maxRecDepth 20000 in
theorem ggX7_code_X7_refuse : GoodIn wsX7_code wsX7_refuse := goodIn_r _ [6, 7, 11, 12, 13, 14, 15, 16, 17, 18, 19, 20, 21, 22, 23, 24, 25, 26] rfl (by decide +kernel)
set_option maxRecDepth 20000 in
theorem gX7_code_X7_refuse : GoodIn wsX7_code (wsV RX7 91 RX7 yX7_refuse wsX7_refuse) := goodIn_app (goodIn_of _ (by decide +kernel)) ggX7_code_X7_refuse
set_option maxRecDepth 20000 in
theorem ggX7_code_X7_isInstruction : GoodIn wsX7_code wsX7_isInstruction := goodIn_r _ [10] rfl (by decide +kernel)
set_option maxRecDepth 20000 in
theorem gX7_code_X7_isInstruction : GoodIn wsX7_code (va_wsS RX7 111 yX7_isInstruction wsX7_isInstruction) := goodIn_app (goodIn_of _ (by decide +kernel)) ggX7_code_X7_isInstruction
theorem dX7_code_0 : decode cX7_code 0 = .ok (.iload_n 1, 1) := by decide +kernel
theorem dX7_code_1 : decode cX7_code 1 = .ok (.ifCond .lt 9, 3) := by decide +kernel
theorem dX7_code_4 : decode cX7_code 4 = .ok (.iload_n 1, 1) := by decide +kernel
theorem dX7_code_5 : decode cX7_code 5 = .ok (.bipush 16, 2) := by decide +kernel
theorem dX7_code_7 : decode cX7_code 7 = .ok (.if_icmp .lt 10, 3) := by decide +kernel
theorem dX7_code_10 : decode cX7_code 10 = .ok (.aload_n 0, 1) := by decide +kernel
theorem dX7_code_11 : decode cX7_code 11 = .ok (.bipush (-3), 2) := by decide +kernel
theorem dX7_code_13 : decode cX7_code 13 = .ok (.invokevirtual 91, 3) := by decide +kernel
theorem dX7_code_16 : decode cX7_code 16 = .ok (.ireturn, 1) := by decide +kernel
theorem dX7_code_17 : decode cX7_code 17 = .ok (.iload_n 2, 1) := by decide +kernel
theorem dX7_code_18 : decode cX7_code 18 = .ok (.iconst (-1), 1) := by decide +kernel
theorem dX7_code_19 : decode cX7_code 19 = .ok (.if_icmp .eq 17, 3) := by decide +kernel
theorem dX7_code_22 : decode cX7_code 22 = .ok (.iload_n 2, 1) := by decide +kernel
theorem dX7_code_23 : decode cX7_code 23 = .ok (.invokestatic 111, 3) := by decide +kernel
theorem dX7_code_26 : decode cX7_code 26 = .ok (.ifCond .ne 10, 3) := by decide +kernel
theorem dX7_code_29 : decode cX7_code 29 = .ok (.aload_n 0, 1) := by decide +kernel
theorem dX7_code_30 : decode cX7_code 30 = .ok (.bipush (-3), 2) := by decide +kernel
theorem dX7_code_32 : decode cX7_code 32 = .ok (.invokevirtual 91, 3) := by decide +kernel
theorem dX7_code_35 : decode cX7_code 35 = .ok (.ireturn, 1) := by decide +kernel
theorem dX7_code_36 : decode cX7_code 36 = .ok (.aload_n 0, 1) := by decide +kernel
theorem dX7_code_37 : decode cX7_code 37 = .ok (.getfield 63, 3) := by decide +kernel
theorem dX7_code_40 : decode cX7_code 40 = .ok (.iload_n 1, 1) := by decide +kernel
theorem dX7_code_41 : decode cX7_code 41 = .ok (.iaload, 1) := by decide +kernel
theorem dX7_code_42 : decode cX7_code 42 = .ok (.istore_n 3, 1) := by decide +kernel
theorem dX7_code_43 : decode cX7_code 43 = .ok (.aload_n 0, 1) := by decide +kernel
theorem dX7_code_44 : decode cX7_code 44 = .ok (.getfield 63, 3) := by decide +kernel
theorem dX7_code_47 : decode cX7_code 47 = .ok (.iload_n 1, 1) := by decide +kernel
theorem dX7_code_48 : decode cX7_code 48 = .ok (.iload_n 2, 1) := by decide +kernel
theorem dX7_code_49 : decode cX7_code 49 = .ok (.iastore, 1) := by decide +kernel
theorem dX7_code_50 : decode cX7_code 50 = .ok (.iload_n 3, 1) := by decide +kernel
theorem dX7_code_51 : decode cX7_code 51 = .ok (.ireturn, 1) := by decide +kernel
set_option maxRecDepth 20000 in
theorem ggX7_step_X7_refuse : GoodIn wsX7_step wsX7_refuse := goodIn_r _ [7, 8, 196, 197, 198, 199, 200, 201, 202, 203, 204, 205, 206, 207, 208, 209, 210, 211] rfl (by decide +kernel)
set_option maxRecDepth 20000 in
theorem gX7_step_X7_refuse : GoodIn wsX7_step (wsV RX7 91 RX7 yX7_refuse wsX7_refuse) := goodIn_app (goodIn_of _ (by decide +kernel)) ggX7_step_X7_refuse
set_option maxRecDepth 20000 in
theorem ggX7_step_X7_doStep : GoodIn wsX7_step wsX7_doStep := goodIn_r _ [12, 13, 14, 15, 16, 17, 18, 19, 20, 21, 22, 23, 24, 25, 26, 27, 28, 29, 30, 31, 32, 33, 34, 35, 36, 37, 38, 39, 40, 41, 42, 43, 44, 45, 46, 47, 48, 49, 50, 51, 52, 53, 6, 54, 55, 56, 57, 58, 59, 60, 61, 62, 63, 64, 65, 66, 67, 68, 69, 70, 71, 72, 73, 74, 75, 76, 77, 78, 79, 80, 81, 82, 83, 84, 85, 86, 87, 88, 89, 90, 91, 92, 93, 94, 95, 96, 97, 98, 99, 100, 101, 102, 103, 104, 105, 106, 107, 108, 109, 110, 111, 112, 113, 114, 115, 116, 117, 118, 119, 120, 121, 122, 123, 124, 125, 126, 127, 128, 129, 130, 131, 132, 133, 134, 135, 136, 137, 138, 139, 140, 141, 142, 143, 144, 145, 146, 147, 148, 149, 150, 151, 152, 153, 154, 155, 156, 157, 158, 159, 160, 161, 162, 163, 164, 165, 166, 167, 168, 169, 170, 171, 172, 173, 174, 175, 176, 177, 178, 179, 180, 181, 182, 183, 184, 185, 186, 187, 188, 189, 190, 191, 192, 193, 194, 195, 196, 197, 198, 199, 200, 201, 202, 203, 204, 205, 206, 207, 208, 209, 210, 211, 212, 213, 214, 215, 216, 217, 218, 219, 220, 221, 222, 223, 224, 225, 226, 227, 228, 229, 230, 231, 232, 233, 234, 235, 236, 237, 238, 239, 240, 241, 242, 243, 244, 245, 246, 247, 248, 249, 250] rfl (by decide +kernel)
set_option maxRecDepth 20000 in
theorem gX7_step_X7_doStep : GoodIn wsX7_step (wsV RX7 229 RX7 yX7_doStep wsX7_doStep) := goodIn_app (goodIn_of _ (by decide +kernel)) ggX7_step_X7_doStep
theorem dX7_step_0 : decode cX7_step 0 = .ok (.iload_n 1, 1) := by decide +kernel
theorem dX7_step_1 : decode cX7_step 1 = .ok (.ifCond .ge 10, 3) := by decide +kernel
theorem dX7_step_4 : decode cX7_step 4 = .ok (.aload_n 0, 1) := by decide +kernel
theorem dX7_step_5 : decode cX7_step 5 = .ok (.bipush (-4), 2) := by decide +kernel
theorem dX7_step_7 : decode cX7_step 7 = .ok (.invokevirtual 91, 3) := by decide +kernel
theorem dX7_step_10 : decode cX7_step 10 = .ok (.ireturn, 1) := by decide +kernel
theorem dX7_step_11 : decode cX7_step 11 = .ok (.iload_n 1, 1) := by decide +kernel
theorem dX7_step_12 : decode cX7_step 12 = .ok (.ifCond .eq 10, 3) := by decide +kernel
theorem dX7_step_15 : decode cX7_step 15 = .ok (.iload_n 1, 1) := by decide +kernel
theorem dX7_step_16 : decode cX7_step 16 = .ok (.sipush 1000, 3) := by decide +kernel
theorem dX7_step_19 : decode cX7_step 19 = .ok (.if_icmp .le 10, 3) := by decide +kernel
theorem dX7_step_22 : decode cX7_step 22 = .ok (.aload_n 0, 1) := by decide +kernel
theorem dX7_step_23 : decode cX7_step 23 = .ok (.bipush (-6), 2) := by decide +kernel
theorem dX7_step_25 : decode cX7_step 25 = .ok (.invokevirtual 91, 3) := by decide +kernel
theorem dX7_step_28 : decode cX7_step 28 = .ok (.ireturn, 1) := by decide +kernel
theorem dX7_step_29 : decode cX7_step 29 = .ok (.iconst 0, 1) := by decide +kernel
theorem dX7_step_30 : decode cX7_step 30 = .ok (.istore_n 2, 1) := by decide +kernel
theorem dX7_step_31 : decode cX7_step 31 = .ok (.aload_n 0, 1) := by decide +kernel
theorem dX7_step_32 : decode cX7_step 32 = .ok (.iconst 0, 1) := by decide +kernel
theorem dX7_step_33 : decode cX7_step 33 = .ok (.putfield 226, 3) := by decide +kernel
theorem dX7_step_36 : decode cX7_step 36 = .ok (.iconst 0, 1) := by decide +kernel
theorem dX7_step_37 : decode cX7_step 37 = .ok (.istore_n 3, 1) := by decide +kernel
theorem dX7_step_38 : decode cX7_step 38 = .ok (.iload_n 3, 1) := by decide +kernel
theorem dX7_step_39 : decode cX7_step 39 = .ok (.iload_n 1, 1) := by decide +kernel
theorem dX7_step_40 : decode cX7_step 40 = .ok (.if_icmp .ge 34, 3) := by decide +kernel
theorem dX7_step_43 : decode cX7_step 43 = .ok (.aload_n 0, 1) := by decide +kernel
theorem dX7_step_44 : decode cX7_step 44 = .ok (.getfield 226, 3) := by decide +kernel
theorem dX7_step_47 : decode cX7_step 47 = .ok (.ifCond .ne 27, 3) := by decide +kernel
theorem dX7_step_50 : decode cX7_step 50 = .ok (.aload_n 0, 1) := by decide +kernel
theorem dX7_step_51 : decode cX7_step 51 = .ok (.aload_n 0, 1) := by decide +kernel
theorem dX7_step_52 : decode cX7_step 52 = .ok (.invokevirtual 229, 3) := by decide +kernel
theorem dX7_step_55 : decode cX7_step 55 = .ok (.putfield 226, 3) := by decide +kernel
theorem dX7_step_58 : decode cX7_step 58 = .ok (.aload_n 0, 1) := by decide +kernel
theorem dX7_step_59 : decode cX7_step 59 = .ok (.getfield 226, 3) := by decide +kernel
theorem dX7_step_62 : decode cX7_step 62 = .ok (.ifCond .ne 6, 3) := by decide +kernel
theorem dX7_step_68 : decode cX7_step 68 = .ok (.iinc 3 1, 3) := by decide +kernel
theorem dX7_step_71 : decode cX7_step 71 = .ok (.goto (-33), 3) := by decide +kernel
theorem dX7_step_74 : decode cX7_step 74 = .ok (.aload_n 0, 1) := by decide +kernel
theorem dX7_step_75 : decode cX7_step 75 = .ok (.dup, 1) := by decide +kernel
theorem dX7_step_76 : decode cX7_step 76 = .ok (.getfield 233, 3) := by decide +kernel
theorem dX7_step_79 : decode cX7_step 79 = .ok (.iload_n 2, 1) := by decide +kernel
theorem dX7_step_80 : decode cX7_step 80 = .ok (.iadd, 1) := by decide +kernel
theorem dX7_step_81 : decode cX7_step 81 = .ok (.putfield 233, 3) := by decide +kernel
theorem dX7_step_84 : decode cX7_step 84 = .ok (.iload_n 2, 1) := by decide +kernel
theorem dX7_step_85 : decode cX7_step 85 = .ok (.ireturn, 1) := by decide +kernel
set_option maxRecDepth 20000 in
theorem ggX7_count_X7_refuse : GoodIn wsX7_count wsX7_refuse := goodIn_r _ [8, 9, 10, 11, 12, 13, 14, 15, 16, 17, 18, 19, 20, 21, 22, 23, 24, 25] rfl (by decide +kernel)
set_option maxRecDepth 20000 in
theorem gX7_count_X7_refuse : GoodIn wsX7_count (wsV RX7 91 RX7 yX7_refuse wsX7_refuse) := goodIn_app (goodIn_of _ (by decide +kernel)) ggX7_count_X7_refuse
theorem dX7_count_0 : decode cX7_count 0 = .ok (.iload_n 1, 1) := by decide +kernel
theorem dX7_count_1 : decode cX7_count 1 = .ok (.tableswitch 42 0 2 #[27, 32, 37], 27) := by decide +kernel
theorem dX7_count_28 : decode cX7_count 28 = .ok (.aload_n 0, 1) := by decide +kernel
theorem dX7_count_29 : decode cX7_count 29 = .ok (.getfield 233, 3) := by decide +kernel
theorem dX7_count_32 : decode cX7_count 32 = .ok (.ireturn, 1) := by decide +kernel
theorem dX7_count_33 : decode cX7_count 33 = .ok (.aload_n 0, 1) := by decide +kernel
theorem dX7_count_34 : decode cX7_count 34 = .ok (.getfield 236, 3) := by decide +kernel
theorem dX7_count_37 : decode cX7_count 37 = .ok (.ireturn, 1) := by decide +kernel
theorem dX7_count_38 : decode cX7_count 38 = .ok (.aload_n 0, 1) := by decide +kernel
theorem dX7_count_39 : decode cX7_count 39 = .ok (.getfield 226, 3) := by decide +kernel
theorem dX7_count_42 : decode cX7_count 42 = .ok (.ireturn, 1) := by decide +kernel
theorem dX7_count_43 : decode cX7_count 43 = .ok (.aload_n 0, 1) := by decide +kernel
theorem dX7_count_44 : decode cX7_count 44 = .ok (.bipush (-6), 2) := by decide +kernel
theorem dX7_count_46 : decode cX7_count 46 = .ok (.invokevirtual 91, 3) := by decide +kernel
theorem dX7_count_49 : decode cX7_count 49 = .ok (.ireturn, 1) := by decide +kernel
theorem dX7_image_0 : decode cX7_image 0 = .ok (.iconst 0, 1) := by decide +kernel
theorem dX7_image_1 : decode cX7_image 1 = .ok (.istore_n 1, 1) := by decide +kernel
theorem dX7_image_2 : decode cX7_image 2 = .ok (.iconst 0, 1) := by decide +kernel
theorem dX7_image_3 : decode cX7_image 3 = .ok (.istore_n 2, 1) := by decide +kernel
theorem dX7_image_4 : decode cX7_image 4 = .ok (.iload_n 2, 1) := by decide +kernel
theorem dX7_image_5 : decode cX7_image 5 = .ok (.bipush 74, 2) := by decide +kernel
theorem dX7_image_7 : decode cX7_image 7 = .ok (.if_icmp .ge 38, 3) := by decide +kernel
theorem dX7_image_10 : decode cX7_image 10 = .ok (.aload_n 0, 1) := by decide +kernel
theorem dX7_image_11 : decode cX7_image 11 = .ok (.getfield 66, 3) := by decide +kernel
theorem dX7_image_14 : decode cX7_image 14 = .ok (.iload_n 2, 1) := by decide +kernel
theorem dX7_image_15 : decode cX7_image 15 = .ok (.aload_n 0, 1) := by decide +kernel
theorem dX7_image_16 : decode cX7_image 16 = .ok (.getfield 12, 3) := by decide +kernel
theorem dX7_image_19 : decode cX7_image 19 = .ok (.getfield 98, 3) := by decide +kernel
theorem dX7_image_22 : decode cX7_image 22 = .ok (.iload_n 2, 1) := by decide +kernel
theorem dX7_image_23 : decode cX7_image 23 = .ok (.laload, 1) := by decide +kernel
theorem dX7_image_24 : decode cX7_image 24 = .ok (.lastore, 1) := by decide +kernel
theorem dX7_image_25 : decode cX7_image 25 = .ok (.aload_n 0, 1) := by decide +kernel
theorem dX7_image_26 : decode cX7_image 26 = .ok (.getfield 66, 3) := by decide +kernel
theorem dX7_image_29 : decode cX7_image 29 = .ok (.iload_n 2, 1) := by decide +kernel
theorem dX7_image_30 : decode cX7_image 30 = .ok (.laload, 1) := by decide +kernel
theorem dX7_image_31 : decode cX7_image 31 = .ok (.lconst 0, 1) := by decide +kernel
theorem dX7_image_32 : decode cX7_image 32 = .ok (.lcmp, 1) := by decide +kernel
theorem dX7_image_33 : decode cX7_image 33 = .ok (.ifCond .eq 6, 3) := by decide +kernel
theorem dX7_image_39 : decode cX7_image 39 = .ok (.iinc 2 1, 3) := by decide +kernel
theorem dX7_image_42 : decode cX7_image 42 = .ok (.goto (-38), 3) := by decide +kernel
theorem dX7_image_45 : decode cX7_image 45 = .ok (.aload_n 0, 1) := by decide +kernel
theorem dX7_image_46 : decode cX7_image 46 = .ok (.iconst 1, 1) := by decide +kernel
theorem dX7_image_47 : decode cX7_image 47 = .ok (.putfield 239, 3) := by decide +kernel
theorem dX7_image_50 : decode cX7_image 50 = .ok (.iload_n 1, 1) := by decide +kernel
theorem dX7_image_51 : decode cX7_image 51 = .ok (.ireturn, 1) := by decide +kernel
set_option maxRecDepth 20000 in
theorem ggX7_restore_X7_refuse : GoodIn wsX7_restore wsX7_refuse := goodIn_r _ [8, 9, 21, 22, 23, 24, 25, 26, 27, 28, 29, 30, 31, 32, 33, 34, 35, 36] rfl (by decide +kernel)
set_option maxRecDepth 20000 in
theorem gX7_restore_X7_refuse : GoodIn wsX7_restore (wsV RX7 91 RX7 yX7_refuse wsX7_refuse) := goodIn_app (goodIn_of _ (by decide +kernel)) ggX7_restore_X7_refuse
theorem dX7_restore_0 : decode cX7_restore 0 = .ok (.aload_n 0, 1) := by decide +kernel
theorem dX7_restore_1 : decode cX7_restore 1 = .ok (.getfield 239, 3) := by decide +kernel
theorem dX7_restore_4 : decode cX7_restore 4 = .ok (.ifCond .ne 10, 3) := by decide +kernel
theorem dX7_restore_7 : decode cX7_restore 7 = .ok (.aload_n 0, 1) := by decide +kernel
theorem dX7_restore_8 : decode cX7_restore 8 = .ok (.bipush (-2), 2) := by decide +kernel
theorem dX7_restore_10 : decode cX7_restore 10 = .ok (.invokevirtual 91, 3) := by decide +kernel
theorem dX7_restore_13 : decode cX7_restore 13 = .ok (.ireturn, 1) := by decide +kernel
set_option maxRecDepth 20000 in
theorem ggX7_lay_X7_refuse : GoodIn wsX7_lay wsX7_refuse := goodIn_r _ [9, 10, 11, 12, 13, 14, 15, 16, 17, 18, 19, 20, 21, 22, 23, 24, 25, 26] rfl (by decide +kernel)
set_option maxRecDepth 20000 in
theorem gX7_lay_X7_refuse : GoodIn wsX7_lay (wsV RX7 91 RX7 yX7_refuse wsX7_refuse) := goodIn_app (goodIn_of _ (by decide +kernel)) ggX7_lay_X7_refuse
theorem dX7_lay_0 : decode cX7_lay 0 = .ok (.iload_n 2, 1) := by decide +kernel
theorem dX7_lay_1 : decode cX7_lay 1 = .ok (.ifCond .ge 10, 3) := by decide +kernel
theorem dX7_lay_4 : decode cX7_lay 4 = .ok (.aload_n 0, 1) := by decide +kernel
theorem dX7_lay_5 : decode cX7_lay 5 = .ok (.bipush (-4), 2) := by decide +kernel
theorem dX7_lay_7 : decode cX7_lay 7 = .ok (.invokevirtual 91, 3) := by decide +kernel
theorem dX7_lay_10 : decode cX7_lay 10 = .ok (.ireturn, 1) := by decide +kernel
theorem dX7_lay_11 : decode cX7_lay 11 = .ok (.iload_n 2, 1) := by decide +kernel
theorem dX7_lay_12 : decode cX7_lay 12 = .ok (.bipush 64, 2) := by decide +kernel
theorem dX7_lay_14 : decode cX7_lay 14 = .ok (.if_icmp .gt 15, 3) := by decide +kernel
theorem dX7_lay_17 : decode cX7_lay 17 = .ok (.iload_n 1, 1) := by decide +kernel
theorem dX7_lay_18 : decode cX7_lay 18 = .ok (.ifCond .lt 11, 3) := by decide +kernel
theorem dX7_lay_21 : decode cX7_lay 21 = .ok (.iload_n 1, 1) := by decide +kernel
theorem dX7_lay_22 : decode cX7_lay 22 = .ok (.bipush 64, 2) := by decide +kernel
theorem dX7_lay_24 : decode cX7_lay 24 = .ok (.iload_n 2, 1) := by decide +kernel
theorem dX7_lay_25 : decode cX7_lay 25 = .ok (.isub, 1) := by decide +kernel
theorem dX7_lay_26 : decode cX7_lay 26 = .ok (.if_icmp .le 10, 3) := by decide +kernel
theorem dX7_lay_29 : decode cX7_lay 29 = .ok (.aload_n 0, 1) := by decide +kernel
theorem dX7_lay_30 : decode cX7_lay 30 = .ok (.bipush (-3), 2) := by decide +kernel
theorem dX7_lay_32 : decode cX7_lay 32 = .ok (.invokevirtual 91, 3) := by decide +kernel
theorem dX7_lay_35 : decode cX7_lay 35 = .ok (.ireturn, 1) := by decide +kernel
theorem dX7_lay_36 : decode cX7_lay 36 = .ok (.iconst 0, 1) := by decide +kernel
theorem dX7_lay_37 : decode cX7_lay 37 = .ok (.istore_n 3, 1) := by decide +kernel
theorem dX7_lay_38 : decode cX7_lay 38 = .ok (.iload_n 3, 1) := by decide +kernel
theorem dX7_lay_39 : decode cX7_lay 39 = .ok (.iload_n 2, 1) := by decide +kernel
theorem dX7_lay_40 : decode cX7_lay 40 = .ok (.if_icmp .ge 31, 3) := by decide +kernel
theorem dX7_lay_43 : decode cX7_lay 43 = .ok (.aload_n 0, 1) := by decide +kernel
theorem dX7_lay_44 : decode cX7_lay 44 = .ok (.getfield 70, 3) := by decide +kernel
theorem dX7_lay_47 : decode cX7_lay 47 = .ok (.iload_n 3, 1) := by decide +kernel
theorem dX7_lay_48 : decode cX7_lay 48 = .ok (.aload_n 0, 1) := by decide +kernel
theorem dX7_lay_49 : decode cX7_lay 49 = .ok (.getfield 12, 3) := by decide +kernel
theorem dX7_lay_52 : decode cX7_lay 52 = .ok (.getfield 98, 3) := by decide +kernel
theorem dX7_lay_55 : decode cX7_lay 55 = .ok (.bipush 10, 2) := by decide +kernel
theorem dX7_lay_57 : decode cX7_lay 57 = .ok (.iload_n 1, 1) := by decide +kernel
theorem dX7_lay_58 : decode cX7_lay 58 = .ok (.iadd, 1) := by decide +kernel
theorem dX7_lay_59 : decode cX7_lay 59 = .ok (.iload_n 3, 1) := by decide +kernel
theorem dX7_lay_60 : decode cX7_lay 60 = .ok (.iadd, 1) := by decide +kernel
theorem dX7_lay_61 : decode cX7_lay 61 = .ok (.laload, 1) := by decide +kernel
theorem dX7_lay_62 : decode cX7_lay 62 = .ok (.l2i, 1) := by decide +kernel
theorem dX7_lay_63 : decode cX7_lay 63 = .ok (.i2s, 1) := by decide +kernel
theorem dX7_lay_64 : decode cX7_lay 64 = .ok (.sastore, 1) := by decide +kernel
theorem dX7_lay_65 : decode cX7_lay 65 = .ok (.iinc 3 1, 3) := by decide +kernel
theorem dX7_lay_68 : decode cX7_lay 68 = .ok (.goto (-30), 3) := by decide +kernel
theorem dX7_lay_71 : decode cX7_lay 71 = .ok (.aload_n 0, 1) := by decide +kernel
theorem dX7_lay_72 : decode cX7_lay 72 = .ok (.iload_n 2, 1) := by decide +kernel
theorem dX7_lay_73 : decode cX7_lay 73 = .ok (.putfield 83, 3) := by decide +kernel
theorem dX7_lay_76 : decode cX7_lay 76 = .ok (.iload_n 2, 1) := by decide +kernel
theorem dX7_lay_77 : decode cX7_lay 77 = .ok (.ireturn, 1) := by decide +kernel
theorem dX7_tear_0 : decode cX7_tear 0 = .ok (.aload_n 0, 1) := by decide +kernel
theorem dX7_tear_1 : decode cX7_tear 1 = .ok (.getfield 83, 3) := by decide +kernel
theorem dX7_tear_4 : decode cX7_tear 4 = .ok (.iconst (-1), 1) := by decide +kernel
theorem dX7_tear_5 : decode cX7_tear 5 = .ok (.if_icmp .ne 7, 3) := by decide +kernel
theorem dX7_tear_8 : decode cX7_tear 8 = .ok (.iconst 0, 1) := by decide +kernel
theorem dX7_tear_9 : decode cX7_tear 9 = .ok (.goto 4, 3) := by decide +kernel
theorem dX7_tear_13 : decode cX7_tear 13 = .ok (.istore_n 1, 1) := by decide +kernel
theorem dX7_tear_14 : decode cX7_tear 14 = .ok (.aload_n 0, 1) := by decide +kernel
theorem dX7_tear_15 : decode cX7_tear 15 = .ok (.iconst (-1), 1) := by decide +kernel
theorem dX7_tear_16 : decode cX7_tear 16 = .ok (.putfield 83, 3) := by decide +kernel
theorem dX7_tear_19 : decode cX7_tear 19 = .ok (.iload_n 1, 1) := by decide +kernel
theorem dX7_tear_20 : decode cX7_tear 20 = .ok (.ireturn, 1) := by decide +kernel
set_option maxRecDepth 20000 in
theorem ggX7_row_X7_refuse : GoodIn wsX7_row wsX7_refuse := goodIn_r _ [7, 8, 9, 10, 11, 12, 13, 14, 15, 16, 17, 18, 19, 20, 21, 22, 23, 24] rfl (by decide +kernel)
set_option maxRecDepth 20000 in
theorem gX7_row_X7_refuse : GoodIn wsX7_row (wsV RX7 91 RX7 yX7_refuse wsX7_refuse) := goodIn_app (goodIn_of _ (by decide +kernel)) ggX7_row_X7_refuse
theorem dX7_row_0 : decode cX7_row 0 = .ok (.aload_n 0, 1) := by decide +kernel
theorem dX7_row_1 : decode cX7_row 1 = .ok (.getfield 83, 3) := by decide +kernel
theorem dX7_row_4 : decode cX7_row 4 = .ok (.iconst (-1), 1) := by decide +kernel
theorem dX7_row_5 : decode cX7_row 5 = .ok (.if_icmp .ne 10, 3) := by decide +kernel
theorem dX7_row_8 : decode cX7_row 8 = .ok (.aload_n 0, 1) := by decide +kernel
theorem dX7_row_9 : decode cX7_row 9 = .ok (.bipush (-2), 2) := by decide +kernel
theorem dX7_row_11 : decode cX7_row 11 = .ok (.invokevirtual 91, 3) := by decide +kernel
theorem dX7_row_14 : decode cX7_row 14 = .ok (.ireturn, 1) := by decide +kernel
set_option maxRecDepth 20000 in
theorem ggX7_copy_X7_refuse : GoodIn wsX7_copy wsX7_refuse := goodIn_r _ [11, 12, 13, 14, 15, 16, 17, 18, 19, 20, 21, 22, 23, 24, 25, 26, 27, 28] rfl (by decide +kernel)
set_option maxRecDepth 20000 in
theorem gX7_copy_X7_refuse : GoodIn wsX7_copy (wsV RX7 91 RX7 yX7_refuse wsX7_refuse) := goodIn_app (goodIn_of _ (by decide +kernel)) ggX7_copy_X7_refuse
theorem dX7_copy_0 : decode cX7_copy 0 = .ok (.aload_n 0, 1) := by decide +kernel
theorem dX7_copy_1 : decode cX7_copy 1 = .ok (.getfield 83, 3) := by decide +kernel
theorem dX7_copy_4 : decode cX7_copy 4 = .ok (.iconst (-1), 1) := by decide +kernel
theorem dX7_copy_5 : decode cX7_copy 5 = .ok (.if_icmp .ne 10, 3) := by decide +kernel
theorem dX7_copy_8 : decode cX7_copy 8 = .ok (.aload_n 0, 1) := by decide +kernel
theorem dX7_copy_9 : decode cX7_copy 9 = .ok (.bipush (-2), 2) := by decide +kernel
theorem dX7_copy_11 : decode cX7_copy 11 = .ok (.invokevirtual 91, 3) := by decide +kernel
theorem dX7_copy_14 : decode cX7_copy 14 = .ok (.ireturn, 1) := by decide +kernel
set_option maxRecDepth 20000 in
theorem ggX7_status_X7_refuse : GoodIn wsX7_status wsX7_refuse := goodIn_r _ [6, 1, 7, 8, 9, 10, 11, 12, 13, 14, 15, 16, 17, 18, 19, 20, 21, 22] rfl (by decide +kernel)
set_option maxRecDepth 20000 in
theorem gX7_status_X7_refuse : GoodIn wsX7_status (wsV RX7 91 RX7 yX7_refuse wsX7_refuse) := goodIn_app (goodIn_of _ (by decide +kernel)) ggX7_status_X7_refuse
theorem dX7_status_0 : decode cX7_status 0 = .ok (.iload_n 1, 1) := by decide +kernel
theorem dX7_status_1 : decode cX7_status 1 = .ok (.bipush (-2), 2) := by decide +kernel
theorem dX7_status_3 : decode cX7_status 3 = .ok (.if_icmp .gt 9, 3) := by decide +kernel
theorem dX7_status_6 : decode cX7_status 6 = .ok (.iload_n 1, 1) := by decide +kernel
theorem dX7_status_7 : decode cX7_status 7 = .ok (.bipush (-7), 2) := by decide +kernel
theorem dX7_status_9 : decode cX7_status 9 = .ok (.if_icmp .ge 10, 3) := by decide +kernel
theorem dX7_status_12 : decode cX7_status 12 = .ok (.aload_n 0, 1) := by decide +kernel
theorem dX7_status_13 : decode cX7_status 13 = .ok (.bipush (-6), 2) := by decide +kernel
theorem dX7_status_15 : decode cX7_status 15 = .ok (.invokevirtual 91, 3) := by decide +kernel
theorem dX7_status_18 : decode cX7_status 18 = .ok (.ireturn, 1) := by decide +kernel
theorem dX7_status_19 : decode cX7_status 19 = .ok (.aload_n 0, 1) := by decide +kernel
theorem dX7_status_20 : decode cX7_status 20 = .ok (.getfield 74, 3) := by decide +kernel
theorem dX7_status_23 : decode cX7_status 23 = .ok (.iload_n 1, 1) := by decide +kernel
theorem dX7_status_24 : decode cX7_status 24 = .ok (.ineg, 1) := by decide +kernel
theorem dX7_status_25 : decode cX7_status 25 = .ok (.iaload, 1) := by decide +kernel
theorem dX7_status_26 : decode cX7_status 26 = .ok (.ireturn, 1) := by decide +kernel
theorem dX7_refuse_0 : decode cX7_refuse 0 = .ok (.aload_n 0, 1) := by decide +kernel
theorem dX7_refuse_1 : decode cX7_refuse 1 = .ok (.getfield 74, 3) := by decide +kernel
theorem dX7_refuse_4 : decode cX7_refuse 4 = .ok (.iload_n 1, 1) := by decide +kernel
theorem dX7_refuse_5 : decode cX7_refuse 5 = .ok (.ineg, 1) := by decide +kernel
theorem dX7_refuse_6 : decode cX7_refuse 6 = .ok (.dup2, 1) := by decide +kernel
theorem dX7_refuse_7 : decode cX7_refuse 7 = .ok (.iaload, 1) := by decide +kernel
theorem dX7_refuse_8 : decode cX7_refuse 8 = .ok (.iconst 1, 1) := by decide +kernel
theorem dX7_refuse_9 : decode cX7_refuse 9 = .ok (.iadd, 1) := by decide +kernel
theorem dX7_refuse_10 : decode cX7_refuse 10 = .ok (.iastore, 1) := by decide +kernel
theorem dX7_refuse_11 : decode cX7_refuse 11 = .ok (.iload_n 1, 1) := by decide +kernel
theorem dX7_refuse_12 : decode cX7_refuse 12 = .ok (.ireturn, 1) := by decide +kernel
set_option maxRecDepth 20000 in
theorem ggX7_hasAct_X7_isInstruction : GoodIn wsX7_hasAct wsX7_isInstruction := goodIn_r _ [6] rfl (by decide +kernel)
set_option maxRecDepth 20000 in
theorem gX7_hasAct_X7_isInstruction : GoodIn wsX7_hasAct (va_wsS RX7 111 yX7_isInstruction wsX7_isInstruction) := goodIn_app (goodIn_of _ (by decide +kernel)) ggX7_hasAct_X7_isInstruction
theorem dX7_hasAct_0 : decode cX7_hasAct 0 = .ok (.iload_n 1, 1) := by decide +kernel
theorem dX7_hasAct_1 : decode cX7_hasAct 1 = .ok (.invokestatic 111, 3) := by decide +kernel
theorem dX7_hasAct_4 : decode cX7_hasAct 4 = .ok (.ifCond .eq 24, 3) := by decide +kernel
theorem dX7_hasAct_7 : decode cX7_hasAct 7 = .ok (.iload_n 2, 1) := by decide +kernel
theorem dX7_hasAct_8 : decode cX7_hasAct 8 = .ok (.ifCond .lt 20, 3) := by decide +kernel
theorem dX7_hasAct_11 : decode cX7_hasAct 11 = .ok (.iload_n 2, 1) := by decide +kernel
theorem dX7_hasAct_12 : decode cX7_hasAct 12 = .ok (.aload_n 0, 1) := by decide +kernel
theorem dX7_hasAct_13 : decode cX7_hasAct 13 = .ok (.getfield 19, 3) := by decide +kernel
theorem dX7_hasAct_16 : decode cX7_hasAct 16 = .ok (.getfield 118, 3) := by decide +kernel
theorem dX7_hasAct_19 : decode cX7_hasAct 19 = .ok (.iload_n 1, 1) := by decide +kernel
theorem dX7_hasAct_20 : decode cX7_hasAct 20 = .ok (.iaload, 1) := by decide +kernel
theorem dX7_hasAct_21 : decode cX7_hasAct 21 = .ok (.if_icmp .ge 7, 3) := by decide +kernel
theorem dX7_hasAct_24 : decode cX7_hasAct 24 = .ok (.iconst 1, 1) := by decide +kernel
theorem dX7_hasAct_25 : decode cX7_hasAct 25 = .ok (.goto 4, 3) := by decide +kernel
theorem dX7_hasAct_28 : decode cX7_hasAct 28 = .ok (.iconst 0, 1) := by decide +kernel
theorem dX7_hasAct_29 : decode cX7_hasAct 29 = .ok (.ireturn, 1) := by decide +kernel
theorem dX7_takeAwayPackedOf_0 : decode cX7_takeAwayPackedOf 0 = .ok (.aload_n 0, 1) := by decide +kernel
theorem dX7_takeAwayPackedOf_1 : decode cX7_takeAwayPackedOf 1 = .ok (.getfield 28, 3) := by decide +kernel
theorem dX7_takeAwayPackedOf_4 : decode cX7_takeAwayPackedOf 4 = .ok (.getfield 172, 3) := by decide +kernel
theorem dX7_takeAwayPackedOf_7 : decode cX7_takeAwayPackedOf 7 = .ok (.iload_n 1, 1) := by decide +kernel
theorem dX7_takeAwayPackedOf_8 : decode cX7_takeAwayPackedOf 8 = .ok (.iconst 0, 1) := by decide +kernel
theorem dX7_takeAwayPackedOf_9 : decode cX7_takeAwayPackedOf 9 = .ok (.bastore, 1) := by decide +kernel
theorem dX7_takeAwayPackedOf_10 : decode cX7_takeAwayPackedOf 10 = .ok (.aload_n 0, 1) := by decide +kernel
theorem dX7_takeAwayPackedOf_11 : decode cX7_takeAwayPackedOf 11 = .ok (.getfield 37, 3) := by decide +kernel
theorem dX7_takeAwayPackedOf_14 : decode cX7_takeAwayPackedOf 14 = .ok (.iconst 0, 1) := by decide +kernel
theorem dX7_takeAwayPackedOf_15 : decode cX7_takeAwayPackedOf 15 = .ok (.putfield 161, 3) := by decide +kernel
theorem dX7_takeAwayPackedOf_18 : decode cX7_takeAwayPackedOf 18 = .ok (.return_, 1) := by decide +kernel
theorem dX7_keepTold_0 : decode cX7_keepTold 0 = .ok (.aload_n 0, 1) := by decide +kernel
theorem dX7_keepTold_1 : decode cX7_keepTold 1 = .ok (.getfield 59, 3) := by decide +kernel
theorem dX7_keepTold_4 : decode cX7_keepTold 4 = .ok (.iconst 0, 1) := by decide +kernel
theorem dX7_keepTold_5 : decode cX7_keepTold 5 = .ok (.aload_n 0, 1) := by decide +kernel
theorem dX7_keepTold_6 : decode cX7_keepTold 6 = .ok (.getfield 55, 3) := by decide +kernel
theorem dX7_keepTold_9 : decode cX7_keepTold 9 = .ok (.getfield 248, 3) := by decide +kernel
theorem dX7_keepTold_12 : decode cX7_keepTold 12 = .ok (.iastore, 1) := by decide +kernel
theorem dX7_keepTold_13 : decode cX7_keepTold 13 = .ok (.aload_n 0, 1) := by decide +kernel
theorem dX7_keepTold_14 : decode cX7_keepTold 14 = .ok (.getfield 59, 3) := by decide +kernel
theorem dX7_keepTold_17 : decode cX7_keepTold 17 = .ok (.iconst 1, 1) := by decide +kernel
theorem dX7_keepTold_18 : decode cX7_keepTold 18 = .ok (.aload_n 0, 1) := by decide +kernel
theorem dX7_keepTold_19 : decode cX7_keepTold 19 = .ok (.getfield 55, 3) := by decide +kernel
theorem dX7_keepTold_22 : decode cX7_keepTold 22 = .ok (.getfield 251, 3) := by decide +kernel
theorem dX7_keepTold_25 : decode cX7_keepTold 25 = .ok (.iastore, 1) := by decide +kernel
theorem dX7_keepTold_26 : decode cX7_keepTold 26 = .ok (.aload_n 0, 1) := by decide +kernel
theorem dX7_keepTold_27 : decode cX7_keepTold 27 = .ok (.getfield 59, 3) := by decide +kernel
theorem dX7_keepTold_30 : decode cX7_keepTold 30 = .ok (.iconst 2, 1) := by decide +kernel
theorem dX7_keepTold_31 : decode cX7_keepTold 31 = .ok (.aload_n 0, 1) := by decide +kernel
theorem dX7_keepTold_32 : decode cX7_keepTold 32 = .ok (.getfield 55, 3) := by decide +kernel
theorem dX7_keepTold_35 : decode cX7_keepTold 35 = .ok (.getfield 254, 3) := by decide +kernel
theorem dX7_keepTold_38 : decode cX7_keepTold 38 = .ok (.iastore, 1) := by decide +kernel
theorem dX7_keepTold_39 : decode cX7_keepTold 39 = .ok (.return_, 1) := by decide +kernel
theorem dX7_doStep_0 : decode cX7_doStep 0 = .ok (.aload_n 0, 1) := by decide +kernel
theorem dX7_doStep_1 : decode cX7_doStep 1 = .ok (.getfield 12, 3) := by decide +kernel
theorem dX7_doStep_4 : decode cX7_doStep 4 = .ok (.getfield 98, 3) := by decide +kernel
theorem dX7_doStep_7 : decode cX7_doStep 7 = .ok (.bipush 7, 2) := by decide +kernel
theorem dX7_doStep_9 : decode cX7_doStep 9 = .ok (.laload, 1) := by decide +kernel
theorem dX7_doStep_10 : decode cX7_doStep 10 = .ok (.lstore_n 1, 1) := by decide +kernel
theorem dX7_doStep_11 : decode cX7_doStep 11 = .ok (.lload_n 1, 1) := by decide +kernel
theorem dX7_doStep_12 : decode cX7_doStep 12 = .ok (.ldc2_w 257, 3) := by decide +kernel
theorem dX7_doStep_15 : decode cX7_doStep 15 = .ok (.lcmp, 1) := by decide +kernel
theorem dX7_doStep_16 : decode cX7_doStep 16 = .ok (.ifCond .lt 5, 3) := by decide +kernel
theorem dX7_doStep_21 : decode cX7_doStep 21 = .ok (.aload_n 0, 1) := by decide +kernel
theorem dX7_doStep_22 : decode cX7_doStep 22 = .ok (.getfield 63, 3) := by decide +kernel
theorem dX7_doStep_25 : decode cX7_doStep 25 = .ok (.aload_n 0, 1) := by decide +kernel
theorem dX7_doStep_26 : decode cX7_doStep 26 = .ok (.getfield 12, 3) := by decide +kernel
theorem dX7_doStep_29 : decode cX7_doStep 29 = .ok (.getfield 98, 3) := by decide +kernel
theorem dX7_doStep_32 : decode cX7_doStep 32 = .ok (.bipush 10, 2) := by decide +kernel
theorem dX7_doStep_34 : decode cX7_doStep 34 = .ok (.lload_n 1, 1) := by decide +kernel
theorem dX7_doStep_35 : decode cX7_doStep 35 = .ok (.l2i, 1) := by decide +kernel
theorem dX7_doStep_36 : decode cX7_doStep 36 = .ok (.iadd, 1) := by decide +kernel
theorem dX7_doStep_37 : decode cX7_doStep 37 = .ok (.laload, 1) := by decide +kernel
theorem dX7_doStep_38 : decode cX7_doStep 38 = .ok (.ldc2_w 259, 3) := by decide +kernel
theorem dX7_doStep_41 : decode cX7_doStep 41 = .ok (.lrem, 1) := by decide +kernel
theorem dX7_doStep_42 : decode cX7_doStep 42 = .ok (.l2i, 1) := by decide +kernel
theorem dX7_doStep_43 : decode cX7_doStep 43 = .ok (.iaload, 1) := by decide +kernel
theorem dX7_doStep_44 : decode cX7_doStep 44 = .ok (.istore_n 3, 1) := by decide +kernel
theorem dX7_doStep_45 : decode cX7_doStep 45 = .ok (.iload_n 3, 1) := by decide +kernel
theorem dX7_doStep_46 : decode cX7_doStep 46 = .ok (.iconst (-1), 1) := by decide +kernel
theorem dX7_doStep_47 : decode cX7_doStep 47 = .ok (.if_icmp .ne 5, 3) := by decide +kernel
theorem dX7_doStep_50 : decode cX7_doStep 50 = .ok (.iconst 2, 1) := by decide +kernel
theorem dX7_doStep_51 : decode cX7_doStep 51 = .ok (.ireturn, 1) := by decide +kernel
theorem dX7_isRegister_0 : decode cX7_isRegister 0 = .ok (.iload_n 0, 1) := by decide +kernel
theorem dX7_isRegister_1 : decode cX7_isRegister 1 = .ok (.ifCond .lt 13, 3) := by decide +kernel
theorem dX7_isRegister_4 : decode cX7_isRegister 4 = .ok (.iload_n 0, 1) := by decide +kernel
theorem dX7_isRegister_5 : decode cX7_isRegister 5 = .ok (.bipush 8, 2) := by decide +kernel
theorem dX7_isRegister_7 : decode cX7_isRegister 7 = .ok (.if_icmp .ge 7, 3) := by decide +kernel
theorem dX7_isRegister_10 : decode cX7_isRegister 10 = .ok (.iconst 1, 1) := by decide +kernel
theorem dX7_isRegister_11 : decode cX7_isRegister 11 = .ok (.goto 4, 3) := by decide +kernel
theorem dX7_isRegister_14 : decode cX7_isRegister 14 = .ok (.iconst 0, 1) := by decide +kernel
theorem dX7_isRegister_15 : decode cX7_isRegister 15 = .ok (.ireturn, 1) := by decide +kernel
theorem dX7_isCell_0 : decode cX7_isCell 0 = .ok (.lload_n 0, 1) := by decide +kernel
theorem dX7_isCell_1 : decode cX7_isCell 1 = .ok (.lconst 0, 1) := by decide +kernel
theorem dX7_isCell_2 : decode cX7_isCell 2 = .ok (.lcmp, 1) := by decide +kernel
theorem dX7_isCell_3 : decode cX7_isCell 3 = .ok (.ifCond .lt 15, 3) := by decide +kernel
theorem dX7_isCell_6 : decode cX7_isCell 6 = .ok (.lload_n 0, 1) := by decide +kernel
theorem dX7_isCell_7 : decode cX7_isCell 7 = .ok (.ldc2_w 257, 3) := by decide +kernel
theorem dX7_isCell_10 : decode cX7_isCell 10 = .ok (.lcmp, 1) := by decide +kernel
theorem dX7_isCell_11 : decode cX7_isCell 11 = .ok (.ifCond .ge 7, 3) := by decide +kernel
theorem dX7_isCell_14 : decode cX7_isCell 14 = .ok (.iconst 1, 1) := by decide +kernel
theorem dX7_isCell_15 : decode cX7_isCell 15 = .ok (.goto 4, 3) := by decide +kernel
theorem dX7_isCell_18 : decode cX7_isCell 18 = .ok (.iconst 0, 1) := by decide +kernel
theorem dX7_isCell_19 : decode cX7_isCell 19 = .ok (.ireturn, 1) := by decide +kernel
theorem dX7_isInstruction_0 : decode cX7_isInstruction 0 = .ok (.iload_n 0, 1) := by decide +kernel
theorem dX7_isInstruction_1 : decode cX7_isInstruction 1 = .ok (.ifCond .lt 13, 3) := by decide +kernel
theorem dX7_isInstruction_4 : decode cX7_isInstruction 4 = .ok (.iload_n 0, 1) := by decide +kernel
theorem dX7_isInstruction_5 : decode cX7_isInstruction 5 = .ok (.bipush 12, 2) := by decide +kernel
theorem dX7_isInstruction_7 : decode cX7_isInstruction 7 = .ok (.if_icmp .ge 7, 3) := by decide +kernel
theorem dX7_isInstruction_10 : decode cX7_isInstruction 10 = .ok (.iconst 1, 1) := by decide +kernel
theorem dX7_isInstruction_11 : decode cX7_isInstruction 11 = .ok (.goto 4, 3) := by decide +kernel
theorem dX7_isInstruction_14 : decode cX7_isInstruction 14 = .ok (.iconst 0, 1) := by decide +kernel
theorem dX7_isInstruction_15 : decode cX7_isInstruction 15 = .ok (.ireturn, 1) := by decide +kernel
set_option maxRecDepth 20000 in
theorem ggX7_isAct_X7_isOfSort : GoodIn wsX7_isAct wsX7_isOfSort := goodIn_r _ [7, 8, 9] rfl (by decide +kernel)
set_option maxRecDepth 20000 in
theorem gX7_isAct_X7_isOfSort : GoodIn wsX7_isAct (va_wsS RX7 264 yX7_isOfSort wsX7_isOfSort) := goodIn_app (goodIn_of _ (by decide +kernel)) ggX7_isAct_X7_isOfSort
theorem dX7_isAct_0 : decode cX7_isAct 0 = .ok (.iload_n 0, 1) := by decide +kernel
theorem dX7_isAct_1 : decode cX7_isAct 1 = .ok (.ifCond .lt 49, 3) := by decide +kernel
theorem dX7_isAct_4 : decode cX7_isAct 4 = .ok (.iload_n 0, 1) := by decide +kernel
theorem dX7_isAct_5 : decode cX7_isAct 5 = .ok (.bipush 11, 2) := by decide +kernel
theorem dX7_isAct_7 : decode cX7_isAct 7 = .ok (.if_icmp .ge 43, 3) := by decide +kernel
theorem dX7_isAct_10 : decode cX7_isAct 10 = .ok (.getstatic 261, 3) := by decide +kernel
theorem dX7_isAct_13 : decode cX7_isAct 13 = .ok (.iload_n 0, 1) := by decide +kernel
theorem dX7_isAct_14 : decode cX7_isAct 14 = .ok (.iaload, 1) := by decide +kernel
theorem dX7_isAct_15 : decode cX7_isAct 15 = .ok (.iload_n 1, 1) := by decide +kernel
theorem dX7_isAct_16 : decode cX7_isAct 16 = .ok (.invokestatic 264, 3) := by decide +kernel
theorem dX7_isAct_19 : decode cX7_isAct 19 = .ok (.ifCond .eq 31, 3) := by decide +kernel
theorem dX7_isAct_22 : decode cX7_isAct 22 = .ok (.getstatic 267, 3) := by decide +kernel
theorem dX7_isAct_25 : decode cX7_isAct 25 = .ok (.iload_n 0, 1) := by decide +kernel
theorem dX7_isAct_26 : decode cX7_isAct 26 = .ok (.iaload, 1) := by decide +kernel
theorem dX7_isAct_27 : decode cX7_isAct 27 = .ok (.iload_n 2, 1) := by decide +kernel
theorem dX7_isAct_28 : decode cX7_isAct 28 = .ok (.invokestatic 264, 3) := by decide +kernel
theorem dX7_isAct_31 : decode cX7_isAct 31 = .ok (.ifCond .eq 19, 3) := by decide +kernel
theorem dX7_isAct_34 : decode cX7_isAct 34 = .ok (.getstatic 270, 3) := by decide +kernel
theorem dX7_isAct_37 : decode cX7_isAct 37 = .ok (.iload_n 0, 1) := by decide +kernel
theorem dX7_isAct_38 : decode cX7_isAct 38 = .ok (.iaload, 1) := by decide +kernel
theorem dX7_isAct_39 : decode cX7_isAct 39 = .ok (.iload_n 3, 1) := by decide +kernel
theorem dX7_isAct_40 : decode cX7_isAct 40 = .ok (.invokestatic 264, 3) := by decide +kernel
theorem dX7_isAct_43 : decode cX7_isAct 43 = .ok (.ifCond .eq 7, 3) := by decide +kernel
theorem dX7_isAct_46 : decode cX7_isAct 46 = .ok (.iconst 1, 1) := by decide +kernel
theorem dX7_isAct_47 : decode cX7_isAct 47 = .ok (.goto 4, 3) := by decide +kernel
theorem dX7_isAct_50 : decode cX7_isAct 50 = .ok (.iconst 0, 1) := by decide +kernel
theorem dX7_isAct_51 : decode cX7_isAct 51 = .ok (.ireturn, 1) := by decide +kernel
theorem dX7_isOfSort_0 : decode cX7_isOfSort 0 = .ok (.iload_n 0, 1) := by decide +kernel
theorem dX7_isOfSort_1 : decode cX7_isOfSort 1 = .ok (.ifCond .eq 21, 3) := by decide +kernel
theorem dX7_isOfSort_4 : decode cX7_isOfSort 4 = .ok (.iload_n 1, 1) := by decide +kernel
theorem dX7_isOfSort_5 : decode cX7_isOfSort 5 = .ok (.getstatic 273, 3) := by decide +kernel
theorem dX7_isOfSort_8 : decode cX7_isOfSort 8 = .ok (.iload_n 0, 1) := by decide +kernel
theorem dX7_isOfSort_9 : decode cX7_isOfSort 9 = .ok (.iaload, 1) := by decide +kernel
theorem dX7_isOfSort_10 : decode cX7_isOfSort 10 = .ok (.if_icmp .lt 16, 3) := by decide +kernel
theorem dX7_isOfSort_13 : decode cX7_isOfSort 13 = .ok (.iload_n 1, 1) := by decide +kernel
theorem dX7_isOfSort_14 : decode cX7_isOfSort 14 = .ok (.getstatic 276, 3) := by decide +kernel
theorem dX7_isOfSort_17 : decode cX7_isOfSort 17 = .ok (.iload_n 0, 1) := by decide +kernel
theorem dX7_isOfSort_18 : decode cX7_isOfSort 18 = .ok (.iaload, 1) := by decide +kernel
theorem dX7_isOfSort_19 : decode cX7_isOfSort 19 = .ok (.if_icmp .gt 7, 3) := by decide +kernel
theorem dX7_isOfSort_22 : decode cX7_isOfSort 22 = .ok (.iconst 1, 1) := by decide +kernel
theorem dX7_isOfSort_23 : decode cX7_isOfSort 23 = .ok (.goto 4, 3) := by decide +kernel
theorem dX7_isOfSort_26 : decode cX7_isOfSort 26 = .ok (.iconst 0, 1) := by decide +kernel
theorem dX7_isOfSort_27 : decode cX7_isOfSort 27 = .ok (.ireturn, 1) := by decide +kernel
theorem dX7_slot_0 : decode cX7_slot 0 = .ok (.iload_n 0, 1) := by decide +kernel
theorem dX7_slot_1 : decode cX7_slot 1 = .ok (.bipush 10, 2) := by decide +kernel
theorem dX7_slot_3 : decode cX7_slot 3 = .ok (.imul, 1) := by decide +kernel
theorem dX7_slot_4 : decode cX7_slot 4 = .ok (.iload_n 1, 1) := by decide +kernel
theorem dX7_slot_5 : decode cX7_slot 5 = .ok (.iadd, 1) := by decide +kernel
theorem dX7_slot_6 : decode cX7_slot 6 = .ok (.ireturn, 1) := by decide +kernel
end
section
theorem dX8_init_0 : decode cX8_init 0 = .ok (.aload_n 0, 1) := by decide +kernel
theorem dX8_init_1 : decode cX8_init 1 = .ok (.invokespecial 1, 3) := by decide +kernel
theorem dX8_init_4 : decode cX8_init 4 = .ok (.aload_n 0, 1) := by decide +kernel
theorem dX8_init_5 : decode cX8_init 5 = .ok (.bipush 74, 2) := by decide +kernel
theorem dX8_init_7 : decode cX8_init 7 = .ok (.newarray .long, 2) := by decide +kernel
theorem dX8_init_9 : decode cX8_init 9 = .ok (.putfield 7, 3) := by decide +kernel
theorem dX8_init_12 : decode cX8_init 12 = .ok (.aload_n 0, 1) := by decide +kernel
theorem dX8_init_13 : decode cX8_init 13 = .ok (.bipush 74, 2) := by decide +kernel
theorem dX8_init_15 : decode cX8_init 15 = .ok (.newarray .long, 2) := by decide +kernel
theorem dX8_init_17 : decode cX8_init 17 = .ok (.putfield 13, 3) := by decide +kernel
theorem dX8_init_20 : decode cX8_init 20 = .ok (.aload_n 0, 1) := by decide +kernel
theorem dX8_init_21 : decode cX8_init 21 = .ok (.bipush 74, 2) := by decide +kernel
theorem dX8_init_23 : decode cX8_init 23 = .ok (.newarray .long, 2) := by decide +kernel
theorem dX8_init_25 : decode cX8_init 25 = .ok (.putfield 16, 3) := by decide +kernel
theorem dX8_init_28 : decode cX8_init 28 = .ok (.aload_n 0, 1) := by decide +kernel
theorem dX8_init_29 : decode cX8_init 29 = .ok (.bipush 74, 2) := by decide +kernel
theorem dX8_init_31 : decode cX8_init 31 = .ok (.newarray .long, 2) := by decide +kernel
theorem dX8_init_33 : decode cX8_init 33 = .ok (.putfield 19, 3) := by decide +kernel
theorem dX8_init_36 : decode cX8_init 36 = .ok (.aload_n 0, 1) := by decide +kernel
theorem dX8_init_37 : decode cX8_init 37 = .ok (.bipush 74, 2) := by decide +kernel
theorem dX8_init_39 : decode cX8_init 39 = .ok (.newarray .long, 2) := by decide +kernel
theorem dX8_init_41 : decode cX8_init 41 = .ok (.putfield 22, 3) := by decide +kernel
theorem dX8_init_44 : decode cX8_init 44 = .ok (.aload_n 0, 1) := by decide +kernel
theorem dX8_init_45 : decode cX8_init 45 = .ok (.bipush 8, 2) := by decide +kernel
theorem dX8_init_47 : decode cX8_init 47 = .ok (.newarray .int, 2) := by decide +kernel
theorem dX8_init_49 : decode cX8_init 49 = .ok (.putfield 25, 3) := by decide +kernel
theorem dX8_init_52 : decode cX8_init 52 = .ok (.aload_n 0, 1) := by decide +kernel
theorem dX8_init_53 : decode cX8_init 53 = .ok (.bipush 120, 2) := by decide +kernel
theorem dX8_init_55 : decode cX8_init 55 = .ok (.newarray .int, 2) := by decide +kernel
theorem dX8_init_57 : decode cX8_init 57 = .ok (.putfield 29, 3) := by decide +kernel
theorem dX8_init_60 : decode cX8_init 60 = .ok (.aload_n 0, 1) := by decide +kernel
theorem dX8_init_61 : decode cX8_init 61 = .ok (.bipush 120, 2) := by decide +kernel
theorem dX8_init_63 : decode cX8_init 63 = .ok (.newarray .int, 2) := by decide +kernel
theorem dX8_init_65 : decode cX8_init 65 = .ok (.putfield 32, 3) := by decide +kernel
theorem dX8_init_68 : decode cX8_init 68 = .ok (.aload_n 0, 1) := by decide +kernel
theorem dX8_init_69 : decode cX8_init 69 = .ok (.bipush 120, 2) := by decide +kernel
theorem dX8_init_71 : decode cX8_init 71 = .ok (.newarray .int, 2) := by decide +kernel
theorem dX8_init_73 : decode cX8_init 73 = .ok (.putfield 35, 3) := by decide +kernel
theorem dX8_init_76 : decode cX8_init 76 = .ok (.aload_n 0, 1) := by decide +kernel
theorem dX8_init_77 : decode cX8_init 77 = .ok (.bipush 120, 2) := by decide +kernel
theorem dX8_init_79 : decode cX8_init 79 = .ok (.newarray .int, 2) := by decide +kernel
theorem dX8_init_81 : decode cX8_init 81 = .ok (.putfield 38, 3) := by decide +kernel
theorem dX8_init_84 : decode cX8_init 84 = .ok (.aload_n 0, 1) := by decide +kernel
theorem dX8_init_85 : decode cX8_init 85 = .ok (.bipush 12, 2) := by decide +kernel
theorem dX8_init_87 : decode cX8_init 87 = .ok (.newarray .int, 2) := by decide +kernel
theorem dX8_init_89 : decode cX8_init 89 = .ok (.putfield 41, 3) := by decide +kernel
theorem dX8_init_92 : decode cX8_init 92 = .ok (.aload_n 0, 1) := by decide +kernel
theorem dX8_init_93 : decode cX8_init 93 = .ok (.iconst 1, 1) := by decide +kernel
theorem dX8_init_94 : decode cX8_init 94 = .ok (.putfield 44, 3) := by decide +kernel
theorem dX8_init_97 : decode cX8_init 97 = .ok (.aload_n 0, 1) := by decide +kernel
theorem dX8_init_98 : decode cX8_init 98 = .ok (.bipush 8, 2) := by decide +kernel
theorem dX8_init_100 : decode cX8_init 100 = .ok (.newarray .int, 2) := by decide +kernel
theorem dX8_init_102 : decode cX8_init 102 = .ok (.putfield 48, 3) := by decide +kernel
theorem dX8_init_105 : decode cX8_init 105 = .ok (.aload_n 0, 1) := by decide +kernel
theorem dX8_init_106 : decode cX8_init 106 = .ok (.sipush 1024, 3) := by decide +kernel
theorem dX8_init_109 : decode cX8_init 109 = .ok (.newarray .int, 2) := by decide +kernel
theorem dX8_init_111 : decode cX8_init 111 = .ok (.putfield 51, 3) := by decide +kernel
theorem dX8_init_114 : decode cX8_init 114 = .ok (.aload_n 0, 1) := by decide +kernel
theorem dX8_init_115 : decode cX8_init 115 = .ok (.bipush 120, 2) := by decide +kernel
theorem dX8_init_117 : decode cX8_init 117 = .ok (.newarray .int, 2) := by decide +kernel
theorem dX8_init_119 : decode cX8_init 119 = .ok (.putfield 54, 3) := by decide +kernel
theorem dX8_init_122 : decode cX8_init 122 = .ok (.aload_n 0, 1) := by decide +kernel
theorem dX8_init_123 : decode cX8_init 123 = .ok (.bipush 12, 2) := by decide +kernel
theorem dX8_init_125 : decode cX8_init 125 = .ok (.newarray .int, 2) := by decide +kernel
theorem dX8_init_127 : decode cX8_init 127 = .ok (.putfield 57, 3) := by decide +kernel
theorem dX8_init_130 : decode cX8_init 130 = .ok (.aload_n 0, 1) := by decide +kernel
theorem dX8_init_131 : decode cX8_init 131 = .ok (.bipush 10, 2) := by decide +kernel
theorem dX8_init_133 : decode cX8_init 133 = .ok (.newarray .int, 2) := by decide +kernel
theorem dX8_init_135 : decode cX8_init 135 = .ok (.putfield 60, 3) := by decide +kernel
theorem dX8_init_138 : decode cX8_init 138 = .ok (.aload_n 0, 1) := by decide +kernel
theorem dX8_init_139 : decode cX8_init 139 = .ok (.bipush 10, 2) := by decide +kernel
theorem dX8_init_141 : decode cX8_init 141 = .ok (.newarray .int, 2) := by decide +kernel
theorem dX8_init_143 : decode cX8_init 143 = .ok (.putfield 63, 3) := by decide +kernel
theorem dX8_init_146 : decode cX8_init 146 = .ok (.aload_n 0, 1) := by decide +kernel
theorem dX8_init_147 : decode cX8_init 147 = .ok (.bipush 12, 2) := by decide +kernel
theorem dX8_init_149 : decode cX8_init 149 = .ok (.newarray .boolean, 2) := by decide +kernel
theorem dX8_init_151 : decode cX8_init 151 = .ok (.putfield 66, 3) := by decide +kernel
theorem dX8_init_154 : decode cX8_init 154 = .ok (.aload_n 0, 1) := by decide +kernel
theorem dX8_init_155 : decode cX8_init 155 = .ok (.bipush 120, 2) := by decide +kernel
theorem dX8_init_157 : decode cX8_init 157 = .ok (.newarray .int, 2) := by decide +kernel
theorem dX8_init_159 : decode cX8_init 159 = .ok (.putfield 70, 3) := by decide +kernel
theorem dX8_init_162 : decode cX8_init 162 = .ok (.aload_n 0, 1) := by decide +kernel
theorem dX8_init_163 : decode cX8_init 163 = .ok (.bipush 120, 2) := by decide +kernel
theorem dX8_init_165 : decode cX8_init 165 = .ok (.newarray .int, 2) := by decide +kernel
theorem dX8_init_167 : decode cX8_init 167 = .ok (.putfield 73, 3) := by decide +kernel
theorem dX8_init_170 : decode cX8_init 170 = .ok (.aload_n 0, 1) := by decide +kernel
theorem dX8_init_171 : decode cX8_init 171 = .ok (.bipush 120, 2) := by decide +kernel
theorem dX8_init_173 : decode cX8_init 173 = .ok (.newarray .int, 2) := by decide +kernel
theorem dX8_init_175 : decode cX8_init 175 = .ok (.putfield 76, 3) := by decide +kernel
theorem dX8_init_178 : decode cX8_init 178 = .ok (.aload_n 0, 1) := by decide +kernel
theorem dX8_init_179 : decode cX8_init 179 = .ok (.bipush 120, 2) := by decide +kernel
theorem dX8_init_181 : decode cX8_init 181 = .ok (.newarray .int, 2) := by decide +kernel
theorem dX8_init_183 : decode cX8_init 183 = .ok (.putfield 79, 3) := by decide +kernel
theorem dX8_init_186 : decode cX8_init 186 = .ok (.aload_n 0, 1) := by decide +kernel
theorem dX8_init_187 : decode cX8_init 187 = .ok (.bipush 120, 2) := by decide +kernel
theorem dX8_init_189 : decode cX8_init 189 = .ok (.newarray .int, 2) := by decide +kernel
theorem dX8_init_191 : decode cX8_init 191 = .ok (.putfield 82, 3) := by decide +kernel
theorem dX8_init_194 : decode cX8_init 194 = .ok (.aload_n 0, 1) := by decide +kernel
theorem dX8_init_195 : decode cX8_init 195 = .ok (.sipush 840, 3) := by decide +kernel
theorem dX8_init_198 : decode cX8_init 198 = .ok (.newarray .int, 2) := by decide +kernel
theorem dX8_init_200 : decode cX8_init 200 = .ok (.putfield 85, 3) := by decide +kernel
theorem dX8_init_203 : decode cX8_init 203 = .ok (.aload_n 0, 1) := by decide +kernel
theorem dX8_init_204 : decode cX8_init 204 = .ok (.bipush 7, 2) := by decide +kernel
theorem dX8_init_206 : decode cX8_init 206 = .ok (.newarray .int, 2) := by decide +kernel
theorem dX8_init_208 : decode cX8_init 208 = .ok (.putfield 88, 3) := by decide +kernel
theorem dX8_init_211 : decode cX8_init 211 = .ok (.aload_n 0, 1) := by decide +kernel
theorem dX8_init_212 : decode cX8_init 212 = .ok (.bipush 7, 2) := by decide +kernel
theorem dX8_init_214 : decode cX8_init 214 = .ok (.newarray .int, 2) := by decide +kernel
theorem dX8_init_216 : decode cX8_init 216 = .ok (.putfield 91, 3) := by decide +kernel
theorem dX8_init_219 : decode cX8_init 219 = .ok (.aload_n 0, 1) := by decide +kernel
theorem dX8_init_220 : decode cX8_init 220 = .ok (.bipush 7, 2) := by decide +kernel
theorem dX8_init_222 : decode cX8_init 222 = .ok (.newarray .int, 2) := by decide +kernel
theorem dX8_init_224 : decode cX8_init 224 = .ok (.putfield 94, 3) := by decide +kernel
theorem dX8_init_227 : decode cX8_init 227 = .ok (.aload_n 0, 1) := by decide +kernel
theorem dX8_init_228 : decode cX8_init 228 = .ok (.bipush 7, 2) := by decide +kernel
theorem dX8_init_230 : decode cX8_init 230 = .ok (.newarray .int, 2) := by decide +kernel
theorem dX8_init_232 : decode cX8_init 232 = .ok (.putfield 97, 3) := by decide +kernel
theorem dX8_init_235 : decode cX8_init 235 = .ok (.aload_n 0, 1) := by decide +kernel
theorem dX8_init_236 : decode cX8_init 236 = .ok (.iconst (-1), 1) := by decide +kernel
theorem dX8_init_237 : decode cX8_init 237 = .ok (.putfield 100, 3) := by decide +kernel
theorem dX8_init_240 : decode cX8_init 240 = .ok (.aload_n 0, 1) := by decide +kernel
theorem dX8_init_241 : decode cX8_init 241 = .ok (.bipush 74, 2) := by decide +kernel
theorem dX8_init_243 : decode cX8_init 243 = .ok (.newarray .long, 2) := by decide +kernel
theorem dX8_init_245 : decode cX8_init 245 = .ok (.putfield 103, 3) := by decide +kernel
theorem dX8_init_248 : decode cX8_init 248 = .ok (.aload_n 0, 1) := by decide +kernel
theorem dX8_init_249 : decode cX8_init 249 = .ok (.bipush 16, 2) := by decide +kernel
theorem dX8_init_251 : decode cX8_init 251 = .ok (.newarray .int, 2) := by decide +kernel
theorem dX8_init_253 : decode cX8_init 253 = .ok (.putfield 106, 3) := by decide +kernel
theorem dX8_init_256 : decode cX8_init 256 = .ok (.aload_n 0, 1) := by decide +kernel
theorem dX8_init_257 : decode cX8_init 257 = .ok (.bipush 64, 2) := by decide +kernel
theorem dX8_init_259 : decode cX8_init 259 = .ok (.newarray .int, 2) := by decide +kernel
theorem dX8_init_261 : decode cX8_init 261 = .ok (.putfield 109, 3) := by decide +kernel
theorem dX8_init_264 : decode cX8_init 264 = .ok (.aload_n 0, 1) := by decide +kernel
theorem dX8_init_265 : decode cX8_init 265 = .ok (.bipush 64, 2) := by decide +kernel
theorem dX8_init_267 : decode cX8_init 267 = .ok (.newarray .int, 2) := by decide +kernel
theorem dX8_init_269 : decode cX8_init 269 = .ok (.putfield 112, 3) := by decide +kernel
theorem dX8_init_272 : decode cX8_init 272 = .ok (.aload_n 0, 1) := by decide +kernel
theorem dX8_init_273 : decode cX8_init 273 = .ok (.iconst (-1), 1) := by decide +kernel
theorem dX8_init_274 : decode cX8_init 274 = .ok (.putfield 115, 3) := by decide +kernel
theorem dX8_init_277 : decode cX8_init 277 = .ok (.iconst 0, 1) := by decide +kernel
theorem dX8_init_278 : decode cX8_init 278 = .ok (.istore_n 1, 1) := by decide +kernel
theorem dX8_init_279 : decode cX8_init 279 = .ok (.iload_n 1, 1) := by decide +kernel
theorem dX8_init_280 : decode cX8_init 280 = .ok (.bipush 8, 2) := by decide +kernel
theorem dX8_init_282 : decode cX8_init 282 = .ok (.if_icmp .ge 17, 3) := by decide +kernel
theorem dX8_init_285 : decode cX8_init 285 = .ok (.aload_n 0, 1) := by decide +kernel
theorem dX8_init_286 : decode cX8_init 286 = .ok (.getfield 25, 3) := by decide +kernel
theorem dX8_init_289 : decode cX8_init 289 = .ok (.iload_n 1, 1) := by decide +kernel
theorem dX8_init_290 : decode cX8_init 290 = .ok (.bipush 16, 2) := by decide +kernel
theorem dX8_init_292 : decode cX8_init 292 = .ok (.iastore, 1) := by decide +kernel
theorem dX8_init_293 : decode cX8_init 293 = .ok (.iinc 1 1, 3) := by decide +kernel
theorem dX8_init_296 : decode cX8_init 296 = .ok (.goto (-17), 3) := by decide +kernel
theorem dX8_init_299 : decode cX8_init 299 = .ok (.iconst 0, 1) := by decide +kernel
theorem dX8_init_300 : decode cX8_init 300 = .ok (.istore_n 1, 1) := by decide +kernel
theorem dX8_isIn_0 : decode cX8_isIn 0 = .ok (.lload_n 0, 1) := by decide +kernel
theorem dX8_isIn_1 : decode cX8_isIn 1 = .ok (.lload_n 2, 1) := by decide +kernel
theorem dX8_isIn_2 : decode cX8_isIn 2 = .ok (.lcmp, 1) := by decide +kernel
theorem dX8_isIn_3 : decode cX8_isIn 3 = .ok (.ifCond .lt 14, 3) := by decide +kernel
theorem dX8_isIn_6 : decode cX8_isIn 6 = .ok (.lload_n 0, 1) := by decide +kernel
theorem dX8_isIn_7 : decode cX8_isIn 7 = .ok (.lload 4, 2) := by decide +kernel
theorem dX8_isIn_9 : decode cX8_isIn 9 = .ok (.lcmp, 1) := by decide +kernel
theorem dX8_isIn_10 : decode cX8_isIn 10 = .ok (.ifCond .gt 7, 3) := by decide +kernel
theorem dX8_isIn_13 : decode cX8_isIn 13 = .ok (.iconst 1, 1) := by decide +kernel
theorem dX8_isIn_14 : decode cX8_isIn 14 = .ok (.goto 4, 3) := by decide +kernel
theorem dX8_isIn_17 : decode cX8_isIn 17 = .ok (.iconst 0, 1) := by decide +kernel
theorem dX8_isIn_18 : decode cX8_isIn 18 = .ok (.ireturn, 1) := by decide +kernel
theorem dX8_no_0 : decode cX8_no 0 = .ok (.aload_n 0, 1) := by decide +kernel
theorem dX8_no_1 : decode cX8_no 1 = .ok (.getfield 48, 3) := by decide +kernel
theorem dX8_no_4 : decode cX8_no 4 = .ok (.iload_n 1, 1) := by decide +kernel
theorem dX8_no_5 : decode cX8_no 5 = .ok (.ineg, 1) := by decide +kernel
theorem dX8_no_6 : decode cX8_no 6 = .ok (.dup2, 1) := by decide +kernel
theorem dX8_no_7 : decode cX8_no 7 = .ok (.iaload, 1) := by decide +kernel
theorem dX8_no_8 : decode cX8_no 8 = .ok (.iconst 1, 1) := by decide +kernel
theorem dX8_no_9 : decode cX8_no 9 = .ok (.iadd, 1) := by decide +kernel
theorem dX8_no_10 : decode cX8_no 10 = .ok (.iastore, 1) := by decide +kernel
theorem dX8_no_11 : decode cX8_no 11 = .ok (.iload_n 1, 1) := by decide +kernel
theorem dX8_no_12 : decode cX8_no 12 = .ok (.ireturn, 1) := by decide +kernel
theorem dX8_isRegister_0 : decode cX8_isRegister 0 = .ok (.iload_n 0, 1) := by decide +kernel
theorem dX8_isRegister_1 : decode cX8_isRegister 1 = .ok (.ifCond .lt 13, 3) := by decide +kernel
theorem dX8_isRegister_4 : decode cX8_isRegister 4 = .ok (.iload_n 0, 1) := by decide +kernel
theorem dX8_isRegister_5 : decode cX8_isRegister 5 = .ok (.bipush 8, 2) := by decide +kernel
theorem dX8_isRegister_7 : decode cX8_isRegister 7 = .ok (.if_icmp .ge 7, 3) := by decide +kernel
theorem dX8_isRegister_10 : decode cX8_isRegister 10 = .ok (.iconst 1, 1) := by decide +kernel
theorem dX8_isRegister_11 : decode cX8_isRegister 11 = .ok (.goto 4, 3) := by decide +kernel
theorem dX8_isRegister_14 : decode cX8_isRegister 14 = .ok (.iconst 0, 1) := by decide +kernel
theorem dX8_isRegister_15 : decode cX8_isRegister 15 = .ok (.ireturn, 1) := by decide +kernel
theorem dX8_isCell_0 : decode cX8_isCell 0 = .ok (.iload_n 0, 1) := by decide +kernel
theorem dX8_isCell_1 : decode cX8_isCell 1 = .ok (.ifCond .lt 13, 3) := by decide +kernel
theorem dX8_isCell_4 : decode cX8_isCell 4 = .ok (.iload_n 0, 1) := by decide +kernel
theorem dX8_isCell_5 : decode cX8_isCell 5 = .ok (.bipush 64, 2) := by decide +kernel
theorem dX8_isCell_7 : decode cX8_isCell 7 = .ok (.if_icmp .ge 7, 3) := by decide +kernel
theorem dX8_isCell_10 : decode cX8_isCell 10 = .ok (.iconst 1, 1) := by decide +kernel
theorem dX8_isCell_11 : decode cX8_isCell 11 = .ok (.goto 4, 3) := by decide +kernel
theorem dX8_isCell_14 : decode cX8_isCell 14 = .ok (.iconst 0, 1) := by decide +kernel
theorem dX8_isCell_15 : decode cX8_isCell 15 = .ok (.ireturn, 1) := by decide +kernel
theorem dX8_isInstruction_0 : decode cX8_isInstruction 0 = .ok (.iload_n 0, 1) := by decide +kernel
theorem dX8_isInstruction_1 : decode cX8_isInstruction 1 = .ok (.ifCond .lt 13, 3) := by decide +kernel
theorem dX8_isInstruction_4 : decode cX8_isInstruction 4 = .ok (.iload_n 0, 1) := by decide +kernel
theorem dX8_isInstruction_5 : decode cX8_isInstruction 5 = .ok (.bipush 12, 2) := by decide +kernel
theorem dX8_isInstruction_7 : decode cX8_isInstruction 7 = .ok (.if_icmp .ge 7, 3) := by decide +kernel
theorem dX8_isInstruction_10 : decode cX8_isInstruction 10 = .ok (.iconst 1, 1) := by decide +kernel
theorem dX8_isInstruction_11 : decode cX8_isInstruction 11 = .ok (.goto 4, 3) := by decide +kernel
theorem dX8_isInstruction_14 : decode cX8_isInstruction 14 = .ok (.iconst 0, 1) := by decide +kernel
theorem dX8_isInstruction_15 : decode cX8_isInstruction 15 = .ok (.ireturn, 1) := by decide +kernel
theorem dX8_cut_0 : decode cX8_cut 0 = .ok (.lload_n 2, 1) := by decide +kernel
theorem dX8_cut_1 : decode cX8_cut 1 = .ok (.lconst 1, 1) := by decide +kernel
theorem dX8_cut_2 : decode cX8_cut 2 = .ok (.aload_n 0, 1) := by decide +kernel
theorem dX8_cut_3 : decode cX8_cut 3 = .ok (.getfield 25, 3) := by decide +kernel
theorem dX8_cut_6 : decode cX8_cut 6 = .ok (.iload_n 1, 1) := by decide +kernel
theorem dX8_cut_7 : decode cX8_cut 7 = .ok (.iaload, 1) := by decide +kernel
theorem dX8_cut_8 : decode cX8_cut 8 = .ok (.lshl, 1) := by decide +kernel
theorem dX8_cut_9 : decode cX8_cut 9 = .ok (.lconst 1, 1) := by decide +kernel
theorem dX8_cut_10 : decode cX8_cut 10 = .ok (.lsub, 1) := by decide +kernel
theorem dX8_cut_11 : decode cX8_cut 11 = .ok (.land, 1) := by decide +kernel
theorem dX8_cut_12 : decode cX8_cut 12 = .ok (.lreturn, 1) := by decide +kernel
set_option maxRecDepth 20000 in
theorem ggX8_width_X8_isRegister : GoodIn wsX8_width wsX8_isRegister := goodIn_r _ [7] rfl (by decide +kernel)
set_option maxRecDepth 20000 in
theorem gX8_width_X8_isRegister : GoodIn wsX8_width (va_wsS RX8 118 yX8_isRegister wsX8_isRegister) := goodIn_app (goodIn_of _ (by decide +kernel)) ggX8_width_X8_isRegister
set_option maxRecDepth 20000 in
theorem ggX8_width_X8_no : GoodIn wsX8_width wsX8_no := goodIn_r _ [11, 12, 20, 21, 22, 23, 24, 25, 26, 27, 28, 29, 30, 31, 32, 33, 34, 35, 36, 37, 38, 39, 40, 41, 42, 43, 44, 45, 46, 47, 48, 49, 50, 51, 52, 53, 54, 55, 56, 57, 58, 59, 60, 61, 62, 63] rfl (by decide +kernel)
set_option maxRecDepth 20000 in
theorem gX8_width_X8_no : GoodIn wsX8_width (wsV RX8 122 RX8 yX8_no wsX8_no) := goodIn_app (goodIn_of _ (by decide +kernel)) ggX8_width_X8_no
set_option maxRecDepth 20000 in
theorem ggX8_width_X8_isIn : GoodIn wsX8_width wsX8_isIn := goodIn_r _ [15] rfl (by decide +kernel)
set_option maxRecDepth 20000 in
theorem gX8_width_X8_isIn : GoodIn wsX8_width (va_wsS RX8 128 yX8_isIn wsX8_isIn) := goodIn_app (goodIn_of _ (by decide +kernel)) ggX8_width_X8_isIn
set_option maxRecDepth 20000 in
theorem ggX8_width_X8_cut : GoodIn wsX8_width wsX8_cut := goodIn_r _ [19, 2, 20, 21, 22, 23, 24, 25, 26, 27, 28, 29, 30, 31, 32, 33, 34, 35, 36, 37, 38, 39, 40, 41, 42, 43, 44, 45, 46, 47, 48, 49, 50, 51, 52, 53, 54, 55, 56, 57, 58, 59, 60, 61, 62, 63] rfl (by decide +kernel)
set_option maxRecDepth 20000 in
theorem gX8_width_X8_cut : GoodIn wsX8_width (wsV RX8 132 RX8 yX8_cut wsX8_cut) := goodIn_app (goodIn_of _ (by decide +kernel)) ggX8_width_X8_cut
theorem dX8_width_0 : decode cX8_width 0 = .ok (.iload_n 1, 1) := by decide +kernel
theorem dX8_width_1 : decode cX8_width 1 = .ok (.invokestatic 118, 3) := by decide +kernel
theorem dX8_width_4 : decode cX8_width 4 = .ok (.ifCond .ne 10, 3) := by decide +kernel
theorem dX8_width_7 : decode cX8_width 7 = .ok (.aload_n 0, 1) := by decide +kernel
theorem dX8_width_8 : decode cX8_width 8 = .ok (.bipush (-3), 2) := by decide +kernel
theorem dX8_width_10 : decode cX8_width 10 = .ok (.invokevirtual 122, 3) := by decide +kernel
theorem dX8_width_13 : decode cX8_width 13 = .ok (.ireturn, 1) := by decide +kernel
theorem dX8_width_14 : decode cX8_width 14 = .ok (.iload_n 2, 1) := by decide +kernel
theorem dX8_width_15 : decode cX8_width 15 = .ok (.i2l, 1) := by decide +kernel
theorem dX8_width_16 : decode cX8_width 16 = .ok (.lconst 1, 1) := by decide +kernel
theorem dX8_width_17 : decode cX8_width 17 = .ok (.ldc2_w 126, 3) := by decide +kernel
theorem dX8_width_20 : decode cX8_width 20 = .ok (.invokestatic 128, 3) := by decide +kernel
theorem dX8_width_23 : decode cX8_width 23 = .ok (.ifCond .ne 10, 3) := by decide +kernel
theorem dX8_width_26 : decode cX8_width 26 = .ok (.aload_n 0, 1) := by decide +kernel
theorem dX8_width_27 : decode cX8_width 27 = .ok (.bipush (-6), 2) := by decide +kernel
theorem dX8_width_29 : decode cX8_width 29 = .ok (.invokevirtual 122, 3) := by decide +kernel
theorem dX8_width_32 : decode cX8_width 32 = .ok (.ireturn, 1) := by decide +kernel
theorem dX8_width_33 : decode cX8_width 33 = .ok (.aload_n 0, 1) := by decide +kernel
theorem dX8_width_34 : decode cX8_width 34 = .ok (.getfield 25, 3) := by decide +kernel
theorem dX8_width_37 : decode cX8_width 37 = .ok (.iload_n 1, 1) := by decide +kernel
theorem dX8_width_38 : decode cX8_width 38 = .ok (.iaload, 1) := by decide +kernel
theorem dX8_width_39 : decode cX8_width 39 = .ok (.istore_n 3, 1) := by decide +kernel
theorem dX8_width_40 : decode cX8_width 40 = .ok (.aload_n 0, 1) := by decide +kernel
theorem dX8_width_41 : decode cX8_width 41 = .ok (.getfield 25, 3) := by decide +kernel
theorem dX8_width_44 : decode cX8_width 44 = .ok (.iload_n 1, 1) := by decide +kernel
theorem dX8_width_45 : decode cX8_width 45 = .ok (.iload_n 2, 1) := by decide +kernel
theorem dX8_width_46 : decode cX8_width 46 = .ok (.iastore, 1) := by decide +kernel
theorem dX8_width_47 : decode cX8_width 47 = .ok (.aload_n 0, 1) := by decide +kernel
theorem dX8_width_48 : decode cX8_width 48 = .ok (.getfield 7, 3) := by decide +kernel
theorem dX8_width_51 : decode cX8_width 51 = .ok (.iload_n 1, 1) := by decide +kernel
theorem dX8_width_52 : decode cX8_width 52 = .ok (.aload_n 0, 1) := by decide +kernel
theorem dX8_width_53 : decode cX8_width 53 = .ok (.iload_n 1, 1) := by decide +kernel
theorem dX8_width_54 : decode cX8_width 54 = .ok (.aload_n 0, 1) := by decide +kernel
theorem dX8_width_55 : decode cX8_width 55 = .ok (.getfield 7, 3) := by decide +kernel
theorem dX8_width_58 : decode cX8_width 58 = .ok (.iload_n 1, 1) := by decide +kernel
theorem dX8_width_59 : decode cX8_width 59 = .ok (.laload, 1) := by decide +kernel
theorem dX8_width_60 : decode cX8_width 60 = .ok (.invokevirtual 132, 3) := by decide +kernel
theorem dX8_width_63 : decode cX8_width 63 = .ok (.lastore, 1) := by decide +kernel
theorem dX8_width_64 : decode cX8_width 64 = .ok (.iload_n 3, 1) := by decide +kernel
theorem dX8_width_65 : decode cX8_width 65 = .ok (.ireturn, 1) := by decide +kernel
set_option maxRecDepth 20000 in
theorem ggX8_set_X8_isRegister : GoodIn wsX8_set wsX8_isRegister := goodIn_r _ [5] rfl (by decide +kernel)
set_option maxRecDepth 20000 in
theorem gX8_set_X8_isRegister : GoodIn wsX8_set (va_wsS RX8 118 yX8_isRegister wsX8_isRegister) := goodIn_app (goodIn_of _ (by decide +kernel)) ggX8_set_X8_isRegister
set_option maxRecDepth 20000 in
theorem ggX8_set_X8_no : GoodIn wsX8_set wsX8_no := goodIn_r _ [9, 10, 16, 17, 18, 19, 20, 21, 22, 23, 24, 25, 26, 27, 28, 29, 30, 31, 32, 33, 34, 35, 36, 37, 38, 39, 40, 41, 42, 43, 44, 45, 46, 47, 48, 49, 50, 51, 52, 53, 54, 55, 56, 57, 58, 59] rfl (by decide +kernel)
set_option maxRecDepth 20000 in
theorem gX8_set_X8_no : GoodIn wsX8_set (wsV RX8 122 RX8 yX8_no wsX8_no) := goodIn_app (goodIn_of _ (by decide +kernel)) ggX8_set_X8_no
set_option maxRecDepth 20000 in
theorem ggX8_set_X8_cut : GoodIn wsX8_set wsX8_cut := goodIn_r _ [14, 15, 16, 17, 18, 19, 20, 21, 22, 23, 24, 25, 26, 27, 28, 29, 30, 31, 32, 33, 34, 35, 36, 37, 38, 39, 40, 41, 42, 43, 44, 45, 46, 47, 48, 49, 50, 51, 52, 53, 54, 55, 56, 57, 58, 59] rfl (by decide +kernel)
set_option maxRecDepth 20000 in
theorem gX8_set_X8_cut : GoodIn wsX8_set (wsV RX8 132 RX8 yX8_cut wsX8_cut) := goodIn_app (goodIn_of _ (by decide +kernel)) ggX8_set_X8_cut
theorem dX8_set_0 : decode cX8_set 0 = .ok (.iload_n 1, 1) := by decide +kernel
theorem dX8_set_1 : decode cX8_set 1 = .ok (.invokestatic 118, 3) := by decide +kernel
theorem dX8_set_4 : decode cX8_set 4 = .ok (.ifCond .ne 10, 3) := by decide +kernel
theorem dX8_set_7 : decode cX8_set 7 = .ok (.aload_n 0, 1) := by decide +kernel
theorem dX8_set_8 : decode cX8_set 8 = .ok (.bipush (-3), 2) := by decide +kernel
theorem dX8_set_10 : decode cX8_set 10 = .ok (.invokevirtual 122, 3) := by decide +kernel
theorem dX8_set_13 : decode cX8_set 13 = .ok (.ireturn, 1) := by decide +kernel
theorem dX8_set_14 : decode cX8_set 14 = .ok (.aload_n 0, 1) := by decide +kernel
theorem dX8_set_15 : decode cX8_set 15 = .ok (.getfield 7, 3) := by decide +kernel
theorem dX8_set_18 : decode cX8_set 18 = .ok (.iload_n 1, 1) := by decide +kernel
theorem dX8_set_19 : decode cX8_set 19 = .ok (.laload, 1) := by decide +kernel
theorem dX8_set_20 : decode cX8_set 20 = .ok (.lstore 4, 2) := by decide +kernel
theorem dX8_set_22 : decode cX8_set 22 = .ok (.aload_n 0, 1) := by decide +kernel
theorem dX8_set_23 : decode cX8_set 23 = .ok (.getfield 7, 3) := by decide +kernel
theorem dX8_set_26 : decode cX8_set 26 = .ok (.iload_n 1, 1) := by decide +kernel
theorem dX8_set_27 : decode cX8_set 27 = .ok (.aload_n 0, 1) := by decide +kernel
theorem dX8_set_28 : decode cX8_set 28 = .ok (.iload_n 1, 1) := by decide +kernel
theorem dX8_set_29 : decode cX8_set 29 = .ok (.lload_n 2, 1) := by decide +kernel
theorem dX8_set_30 : decode cX8_set 30 = .ok (.invokevirtual 132, 3) := by decide +kernel
theorem dX8_set_33 : decode cX8_set 33 = .ok (.lastore, 1) := by decide +kernel
theorem dX8_set_34 : decode cX8_set 34 = .ok (.lload 4, 2) := by decide +kernel
theorem dX8_set_36 : decode cX8_set 36 = .ok (.aload_n 0, 1) := by decide +kernel
theorem dX8_set_37 : decode cX8_set 37 = .ok (.getfield 7, 3) := by decide +kernel
theorem dX8_set_40 : decode cX8_set 40 = .ok (.iload_n 1, 1) := by decide +kernel
theorem dX8_set_41 : decode cX8_set 41 = .ok (.laload, 1) := by decide +kernel
theorem dX8_set_42 : decode cX8_set 42 = .ok (.lcmp, 1) := by decide +kernel
theorem dX8_set_43 : decode cX8_set 43 = .ok (.ifCond .eq 7, 3) := by decide +kernel
theorem dX8_set_46 : decode cX8_set 46 = .ok (.iconst 1, 1) := by decide +kernel
theorem dX8_set_47 : decode cX8_set 47 = .ok (.goto 4, 3) := by decide +kernel
theorem dX8_set_50 : decode cX8_set 50 = .ok (.iconst 0, 1) := by decide +kernel
theorem dX8_set_51 : decode cX8_set 51 = .ok (.ireturn, 1) := by decide +kernel
set_option maxRecDepth 20000 in
theorem ggX8_register_X8_isRegister : GoodIn wsX8_register wsX8_isRegister := goodIn_r _ [5] rfl (by decide +kernel)
set_option maxRecDepth 20000 in
theorem gX8_register_X8_isRegister : GoodIn wsX8_register (va_wsS RX8 118 yX8_isRegister wsX8_isRegister) := goodIn_app (goodIn_of _ (by decide +kernel)) ggX8_register_X8_isRegister
set_option maxRecDepth 20000 in
theorem ggX8_register_X8_no : GoodIn wsX8_register wsX8_no := goodIn_r _ [9, 10, 11, 12, 13, 14, 15, 16, 17, 18, 19, 20, 21, 22, 23, 24, 25, 26, 27, 28, 29, 30, 31, 32, 33, 34, 35, 36, 37, 38, 39, 40, 41, 42, 43, 44, 45, 46, 47, 48, 49, 50, 51, 52, 53, 54] rfl (by decide +kernel)
set_option maxRecDepth 20000 in
theorem gX8_register_X8_no : GoodIn wsX8_register (wsV RX8 122 RX8 yX8_no wsX8_no) := goodIn_app (goodIn_of _ (by decide +kernel)) ggX8_register_X8_no
theorem dX8_register_0 : decode cX8_register 0 = .ok (.iload_n 1, 1) := by decide +kernel
theorem dX8_register_1 : decode cX8_register 1 = .ok (.invokestatic 118, 3) := by decide +kernel
theorem dX8_register_4 : decode cX8_register 4 = .ok (.ifCond .eq 10, 3) := by decide +kernel
theorem dX8_register_7 : decode cX8_register 7 = .ok (.aload_n 0, 1) := by decide +kernel
theorem dX8_register_8 : decode cX8_register 8 = .ok (.getfield 7, 3) := by decide +kernel
theorem dX8_register_11 : decode cX8_register 11 = .ok (.iload_n 1, 1) := by decide +kernel
theorem dX8_register_12 : decode cX8_register 12 = .ok (.laload, 1) := by decide +kernel
theorem dX8_register_13 : decode cX8_register 13 = .ok (.lreturn, 1) := by decide +kernel
theorem dX8_register_14 : decode cX8_register 14 = .ok (.aload_n 0, 1) := by decide +kernel
theorem dX8_register_15 : decode cX8_register 15 = .ok (.bipush (-3), 2) := by decide +kernel
theorem dX8_register_17 : decode cX8_register 17 = .ok (.invokevirtual 122, 3) := by decide +kernel
theorem dX8_register_20 : decode cX8_register 20 = .ok (.istore_n 2, 1) := by decide +kernel
theorem dX8_register_21 : decode cX8_register 21 = .ok (.lconst 0, 1) := by decide +kernel
theorem dX8_register_22 : decode cX8_register 22 = .ok (.lreturn, 1) := by decide +kernel
set_option maxRecDepth 20000 in
theorem ggX8_poke_X8_isCell : GoodIn wsX8_poke wsX8_isCell := goodIn_r _ [6] rfl (by decide +kernel)
set_option maxRecDepth 20000 in
theorem gX8_poke_X8_isCell : GoodIn wsX8_poke (va_wsS RX8 136 yX8_isCell wsX8_isCell) := goodIn_app (goodIn_of _ (by decide +kernel)) ggX8_poke_X8_isCell
set_option maxRecDepth 20000 in
theorem ggX8_poke_X8_no : GoodIn wsX8_poke wsX8_no := goodIn_r _ [10, 11, 12, 13, 14, 15, 16, 17, 18, 19, 20, 21, 22, 23, 24, 25, 26, 27, 28, 29, 30, 31, 32, 33, 34, 35, 36, 37, 38, 39, 40, 41, 42, 43, 44, 45, 46, 47, 48, 49, 50, 51, 52, 53, 54, 55] rfl (by decide +kernel)
set_option maxRecDepth 20000 in
theorem gX8_poke_X8_no : GoodIn wsX8_poke (wsV RX8 122 RX8 yX8_no wsX8_no) := goodIn_app (goodIn_of _ (by decide +kernel)) ggX8_poke_X8_no
theorem dX8_poke_0 : decode cX8_poke 0 = .ok (.iload_n 1, 1) := by decide +kernel
theorem dX8_poke_1 : decode cX8_poke 1 = .ok (.invokestatic 136, 3) := by decide +kernel
theorem dX8_poke_4 : decode cX8_poke 4 = .ok (.ifCond .ne 10, 3) := by decide +kernel
theorem dX8_poke_7 : decode cX8_poke 7 = .ok (.aload_n 0, 1) := by decide +kernel
theorem dX8_poke_8 : decode cX8_poke 8 = .ok (.bipush (-3), 2) := by decide +kernel
theorem dX8_poke_10 : decode cX8_poke 10 = .ok (.invokevirtual 122, 3) := by decide +kernel
theorem dX8_poke_13 : decode cX8_poke 13 = .ok (.ireturn, 1) := by decide +kernel
theorem dX8_poke_14 : decode cX8_poke 14 = .ok (.aload_n 0, 1) := by decide +kernel
theorem dX8_poke_15 : decode cX8_poke 15 = .ok (.getfield 7, 3) := by decide +kernel
theorem dX8_poke_18 : decode cX8_poke 18 = .ok (.bipush 10, 2) := by decide +kernel
theorem dX8_poke_20 : decode cX8_poke 20 = .ok (.iload_n 1, 1) := by decide +kernel
theorem dX8_poke_21 : decode cX8_poke 21 = .ok (.iadd, 1) := by decide +kernel
theorem dX8_poke_22 : decode cX8_poke 22 = .ok (.laload, 1) := by decide +kernel
theorem dX8_poke_23 : decode cX8_poke 23 = .ok (.lstore 4, 2) := by decide +kernel
theorem dX8_poke_25 : decode cX8_poke 25 = .ok (.aload_n 0, 1) := by decide +kernel
theorem dX8_poke_26 : decode cX8_poke 26 = .ok (.getfield 7, 3) := by decide +kernel
theorem dX8_poke_29 : decode cX8_poke 29 = .ok (.bipush 10, 2) := by decide +kernel
theorem dX8_poke_31 : decode cX8_poke 31 = .ok (.iload_n 1, 1) := by decide +kernel
theorem dX8_poke_32 : decode cX8_poke 32 = .ok (.iadd, 1) := by decide +kernel
theorem dX8_poke_33 : decode cX8_poke 33 = .ok (.lload_n 2, 1) := by decide +kernel
theorem dX8_poke_34 : decode cX8_poke 34 = .ok (.ldc2_w 139, 3) := by decide +kernel
theorem dX8_poke_37 : decode cX8_poke 37 = .ok (.land, 1) := by decide +kernel
theorem dX8_poke_38 : decode cX8_poke 38 = .ok (.lastore, 1) := by decide +kernel
theorem dX8_poke_39 : decode cX8_poke 39 = .ok (.lload 4, 2) := by decide +kernel
theorem dX8_poke_41 : decode cX8_poke 41 = .ok (.aload_n 0, 1) := by decide +kernel
theorem dX8_poke_42 : decode cX8_poke 42 = .ok (.getfield 7, 3) := by decide +kernel
theorem dX8_poke_45 : decode cX8_poke 45 = .ok (.bipush 10, 2) := by decide +kernel
theorem dX8_poke_47 : decode cX8_poke 47 = .ok (.iload_n 1, 1) := by decide +kernel
theorem dX8_poke_48 : decode cX8_poke 48 = .ok (.iadd, 1) := by decide +kernel
theorem dX8_poke_49 : decode cX8_poke 49 = .ok (.laload, 1) := by decide +kernel
theorem dX8_poke_50 : decode cX8_poke 50 = .ok (.lcmp, 1) := by decide +kernel
theorem dX8_poke_51 : decode cX8_poke 51 = .ok (.ifCond .eq 7, 3) := by decide +kernel
theorem dX8_poke_54 : decode cX8_poke 54 = .ok (.iconst 1, 1) := by decide +kernel
theorem dX8_poke_55 : decode cX8_poke 55 = .ok (.goto 4, 3) := by decide +kernel
theorem dX8_poke_58 : decode cX8_poke 58 = .ok (.iconst 0, 1) := by decide +kernel
theorem dX8_poke_59 : decode cX8_poke 59 = .ok (.ireturn, 1) := by decide +kernel
set_option maxRecDepth 20000 in
theorem ggX8_cell_X8_isCell : GoodIn wsX8_cell wsX8_isCell := goodIn_r _ [5] rfl (by decide +kernel)
set_option maxRecDepth 20000 in
theorem gX8_cell_X8_isCell : GoodIn wsX8_cell (va_wsS RX8 136 yX8_isCell wsX8_isCell) := goodIn_app (goodIn_of _ (by decide +kernel)) ggX8_cell_X8_isCell
set_option maxRecDepth 20000 in
theorem ggX8_cell_X8_no : GoodIn wsX8_cell wsX8_no := goodIn_r _ [9, 10, 11, 12, 13, 14, 15, 16, 17, 18, 19, 20, 21, 22, 23, 24, 25, 26, 27, 28, 29, 30, 31, 32, 33, 34, 35, 36, 37, 38, 39, 40, 41, 42, 43, 44, 45, 46, 47, 48, 49, 50, 51, 52, 53, 54] rfl (by decide +kernel)
set_option maxRecDepth 20000 in
theorem gX8_cell_X8_no : GoodIn wsX8_cell (wsV RX8 122 RX8 yX8_no wsX8_no) := goodIn_app (goodIn_of _ (by decide +kernel)) ggX8_cell_X8_no
theorem dX8_cell_0 : decode cX8_cell 0 = .ok (.iload_n 1, 1) := by decide +kernel
theorem dX8_cell_1 : decode cX8_cell 1 = .ok (.invokestatic 136, 3) := by decide +kernel
theorem dX8_cell_4 : decode cX8_cell 4 = .ok (.ifCond .eq 13, 3) := by decide +kernel
theorem dX8_cell_7 : decode cX8_cell 7 = .ok (.aload_n 0, 1) := by decide +kernel
theorem dX8_cell_8 : decode cX8_cell 8 = .ok (.getfield 7, 3) := by decide +kernel
theorem dX8_cell_11 : decode cX8_cell 11 = .ok (.bipush 10, 2) := by decide +kernel
theorem dX8_cell_13 : decode cX8_cell 13 = .ok (.iload_n 1, 1) := by decide +kernel
theorem dX8_cell_14 : decode cX8_cell 14 = .ok (.iadd, 1) := by decide +kernel
theorem dX8_cell_15 : decode cX8_cell 15 = .ok (.laload, 1) := by decide +kernel
theorem dX8_cell_16 : decode cX8_cell 16 = .ok (.lreturn, 1) := by decide +kernel
theorem dX8_cell_17 : decode cX8_cell 17 = .ok (.aload_n 0, 1) := by decide +kernel
theorem dX8_cell_18 : decode cX8_cell 18 = .ok (.bipush (-3), 2) := by decide +kernel
theorem dX8_cell_20 : decode cX8_cell 20 = .ok (.invokevirtual 122, 3) := by decide +kernel
theorem dX8_cell_23 : decode cX8_cell 23 = .ok (.istore_n 2, 1) := by decide +kernel
theorem dX8_cell_24 : decode cX8_cell 24 = .ok (.lconst 0, 1) := by decide +kernel
theorem dX8_cell_25 : decode cX8_cell 25 = .ok (.lreturn, 1) := by decide +kernel
set_option maxRecDepth 20000 in
theorem ggX8_flag_X8_isIn : GoodIn wsX8_flag wsX8_isIn := goodIn_r _ [5] rfl (by decide +kernel)
set_option maxRecDepth 20000 in
theorem gX8_flag_X8_isIn : GoodIn wsX8_flag (va_wsS RX8 128 yX8_isIn wsX8_isIn) := goodIn_app (goodIn_of _ (by decide +kernel)) ggX8_flag_X8_isIn
set_option maxRecDepth 20000 in
theorem ggX8_flag_X8_no : GoodIn wsX8_flag wsX8_no := goodIn_r _ [9, 10, 11, 12, 13, 14, 15, 16, 17, 18, 19, 20, 21, 22, 23, 24, 25, 26, 27, 28, 29, 30, 31, 32, 33, 34, 35, 36, 37, 38, 39, 40, 41, 42, 43, 44, 45, 46, 47, 48, 49, 50, 51, 52, 53, 54] rfl (by decide +kernel)
set_option maxRecDepth 20000 in
theorem gX8_flag_X8_no : GoodIn wsX8_flag (wsV RX8 122 RX8 yX8_no wsX8_no) := goodIn_app (goodIn_of _ (by decide +kernel)) ggX8_flag_X8_no
theorem dX8_flag_0 : decode cX8_flag 0 = .ok (.iload_n 1, 1) := by decide +kernel
theorem dX8_flag_1 : decode cX8_flag 1 = .ok (.i2l, 1) := by decide +kernel
theorem dX8_flag_2 : decode cX8_flag 2 = .ok (.lconst 0, 1) := by decide +kernel
theorem dX8_flag_3 : decode cX8_flag 3 = .ok (.lconst 1, 1) := by decide +kernel
theorem dX8_flag_4 : decode cX8_flag 4 = .ok (.invokestatic 128, 3) := by decide +kernel
theorem dX8_flag_7 : decode cX8_flag 7 = .ok (.ifCond .ne 10, 3) := by decide +kernel
theorem dX8_flag_10 : decode cX8_flag 10 = .ok (.aload_n 0, 1) := by decide +kernel
theorem dX8_flag_11 : decode cX8_flag 11 = .ok (.bipush (-3), 2) := by decide +kernel
theorem dX8_flag_13 : decode cX8_flag 13 = .ok (.invokevirtual 122, 3) := by decide +kernel
theorem dX8_flag_16 : decode cX8_flag 16 = .ok (.ireturn, 1) := by decide +kernel
theorem dX8_flag_17 : decode cX8_flag 17 = .ok (.aload_n 0, 1) := by decide +kernel
theorem dX8_flag_18 : decode cX8_flag 18 = .ok (.getfield 7, 3) := by decide +kernel
theorem dX8_flag_21 : decode cX8_flag 21 = .ok (.bipush 8, 2) := by decide +kernel
theorem dX8_flag_23 : decode cX8_flag 23 = .ok (.iload_n 1, 1) := by decide +kernel
theorem dX8_flag_24 : decode cX8_flag 24 = .ok (.iadd, 1) := by decide +kernel
theorem dX8_flag_25 : decode cX8_flag 25 = .ok (.laload, 1) := by decide +kernel
theorem dX8_flag_26 : decode cX8_flag 26 = .ok (.l2i, 1) := by decide +kernel
theorem dX8_flag_27 : decode cX8_flag 27 = .ok (.istore_n 3, 1) := by decide +kernel
theorem dX8_flag_28 : decode cX8_flag 28 = .ok (.aload_n 0, 1) := by decide +kernel
theorem dX8_flag_29 : decode cX8_flag 29 = .ok (.getfield 7, 3) := by decide +kernel
theorem dX8_flag_32 : decode cX8_flag 32 = .ok (.bipush 8, 2) := by decide +kernel
theorem dX8_flag_34 : decode cX8_flag 34 = .ok (.iload_n 1, 1) := by decide +kernel
theorem dX8_flag_35 : decode cX8_flag 35 = .ok (.iadd, 1) := by decide +kernel
theorem dX8_flag_36 : decode cX8_flag 36 = .ok (.iload_n 2, 1) := by decide +kernel
theorem dX8_flag_37 : decode cX8_flag 37 = .ok (.ifCond .eq 7, 3) := by decide +kernel
theorem dX8_flag_40 : decode cX8_flag 40 = .ok (.lconst 1, 1) := by decide +kernel
theorem dX8_flag_41 : decode cX8_flag 41 = .ok (.goto 4, 3) := by decide +kernel
theorem dX8_flag_44 : decode cX8_flag 44 = .ok (.lconst 0, 1) := by decide +kernel
theorem dX8_flag_45 : decode cX8_flag 45 = .ok (.lastore, 1) := by decide +kernel
theorem dX8_flag_46 : decode cX8_flag 46 = .ok (.iload_n 3, 1) := by decide +kernel
theorem dX8_flag_47 : decode cX8_flag 47 = .ok (.ireturn, 1) := by decide +kernel
theorem dX8_flags_0 : decode cX8_flags 0 = .ok (.aload_n 0, 1) := by decide +kernel
theorem dX8_flags_1 : decode cX8_flags 1 = .ok (.getfield 7, 3) := by decide +kernel
theorem dX8_flags_4 : decode cX8_flags 4 = .ok (.bipush 8, 2) := by decide +kernel
theorem dX8_flags_6 : decode cX8_flags 6 = .ok (.laload, 1) := by decide +kernel
theorem dX8_flags_7 : decode cX8_flags 7 = .ok (.ldc2_w 141, 3) := by decide +kernel
theorem dX8_flags_10 : decode cX8_flags 10 = .ok (.aload_n 0, 1) := by decide +kernel
theorem dX8_flags_11 : decode cX8_flags 11 = .ok (.getfield 7, 3) := by decide +kernel
theorem dX8_flags_14 : decode cX8_flags 14 = .ok (.bipush 9, 2) := by decide +kernel
theorem dX8_flags_16 : decode cX8_flags 16 = .ok (.laload, 1) := by decide +kernel
theorem dX8_flags_17 : decode cX8_flags 17 = .ok (.lmul, 1) := by decide +kernel
theorem dX8_flags_18 : decode cX8_flags 18 = .ok (.ladd, 1) := by decide +kernel
theorem dX8_flags_19 : decode cX8_flags 19 = .ok (.l2i, 1) := by decide +kernel
theorem dX8_flags_20 : decode cX8_flags 20 = .ok (.ireturn, 1) := by decide +kernel
theorem dX8_hasD_0 : decode cX8_hasD 0 = .ok (.iload_n 0, 1) := by decide +kernel
theorem dX8_hasD_1 : decode cX8_hasD 1 = .ok (.bipush 7, 2) := by decide +kernel
theorem dX8_hasD_3 : decode cX8_hasD 3 = .ok (.if_icmp .gt 7, 3) := by decide +kernel
theorem dX8_hasD_6 : decode cX8_hasD 6 = .ok (.iconst 1, 1) := by decide +kernel
theorem dX8_hasD_7 : decode cX8_hasD 7 = .ok (.goto 4, 3) := by decide +kernel
theorem dX8_hasD_10 : decode cX8_hasD 10 = .ok (.iconst 0, 1) := by decide +kernel
theorem dX8_hasD_11 : decode cX8_hasD 11 = .ok (.ireturn, 1) := by decide +kernel
theorem dX8_hasY_0 : decode cX8_hasY 0 = .ok (.iload_n 0, 1) := by decide +kernel
theorem dX8_hasY_1 : decode cX8_hasY 1 = .ok (.iconst 2, 1) := by decide +kernel
theorem dX8_hasY_2 : decode cX8_hasY 2 = .ok (.if_icmp .lt 13, 3) := by decide +kernel
theorem dX8_hasY_5 : decode cX8_hasY 5 = .ok (.iload_n 0, 1) := by decide +kernel
theorem dX8_hasY_6 : decode cX8_hasY 6 = .ok (.bipush 7, 2) := by decide +kernel
theorem dX8_hasY_8 : decode cX8_hasY 8 = .ok (.if_icmp .eq 7, 3) := by decide +kernel
theorem dX8_hasY_11 : decode cX8_hasY 11 = .ok (.iconst 1, 1) := by decide +kernel
theorem dX8_hasY_12 : decode cX8_hasY 12 = .ok (.goto 4, 3) := by decide +kernel
theorem dX8_hasY_15 : decode cX8_hasY 15 = .ok (.iconst 0, 1) := by decide +kernel
theorem dX8_hasY_16 : decode cX8_hasY 16 = .ok (.ireturn, 1) := by decide +kernel
set_option maxRecDepth 20000 in
theorem ggX8_isActs_X8_isIn : GoodIn wsX8_isActs wsX8_isIn := goodIn_r _ [8] rfl (by decide +kernel)
set_option maxRecDepth 20000 in
theorem gX8_isActs_X8_isIn : GoodIn wsX8_isActs (va_wsS RX8 128 yX8_isIn wsX8_isIn) := goodIn_app (goodIn_of _ (by decide +kernel)) ggX8_isActs_X8_isIn
set_option maxRecDepth 20000 in
theorem ggX8_isActs_X8_hasD : GoodIn wsX8_isActs wsX8_hasD := goodIn_r _ [11] rfl (by decide +kernel)
set_option maxRecDepth 20000 in
theorem gX8_isActs_X8_hasD : GoodIn wsX8_isActs (va_wsS RX8 145 yX8_hasD wsX8_hasD) := goodIn_app (goodIn_of _ (by decide +kernel)) ggX8_isActs_X8_hasD
set_option maxRecDepth 20000 in
theorem ggX8_isActs_X8_isRegister : GoodIn wsX8_isActs wsX8_isRegister := goodIn_r _ [14] rfl (by decide +kernel)
set_option maxRecDepth 20000 in
theorem gX8_isActs_X8_isRegister : GoodIn wsX8_isActs (va_wsS RX8 118 yX8_isRegister wsX8_isRegister) := goodIn_app (goodIn_of _ (by decide +kernel)) ggX8_isActs_X8_isRegister
set_option maxRecDepth 20000 in
theorem ggX8_isActs_X8_hasY : GoodIn wsX8_isActs wsX8_hasY := goodIn_r _ [17] rfl (by decide +kernel)
set_option maxRecDepth 20000 in
theorem gX8_isActs_X8_hasY : GoodIn wsX8_isActs (va_wsS RX8 150 yX8_hasY wsX8_hasY) := goodIn_app (goodIn_of _ (by decide +kernel)) ggX8_isActs_X8_hasY
theorem dX8_isActs_0 : decode cX8_isActs 0 = .ok (.iload_n 0, 1) := by decide +kernel
theorem dX8_isActs_1 : decode cX8_isActs 1 = .ok (.i2l, 1) := by decide +kernel
theorem dX8_isActs_2 : decode cX8_isActs 2 = .ok (.lconst 0, 1) := by decide +kernel
theorem dX8_isActs_3 : decode cX8_isActs 3 = .ok (.ldc2_w 143, 3) := by decide +kernel
theorem dX8_isActs_6 : decode cX8_isActs 6 = .ok (.invokestatic 128, 3) := by decide +kernel
theorem dX8_isActs_9 : decode cX8_isActs 9 = .ok (.ifCond .eq 17, 3) := by decide +kernel
theorem dX8_isActs_12 : decode cX8_isActs 12 = .ok (.iload_n 0, 1) := by decide +kernel
theorem dX8_isActs_13 : decode cX8_isActs 13 = .ok (.invokestatic 145, 3) := by decide +kernel
theorem dX8_isActs_16 : decode cX8_isActs 16 = .ok (.ifCond .eq 12, 3) := by decide +kernel
theorem dX8_isActs_19 : decode cX8_isActs 19 = .ok (.iload_n 1, 1) := by decide +kernel
theorem dX8_isActs_20 : decode cX8_isActs 20 = .ok (.invokestatic 118, 3) := by decide +kernel
theorem dX8_isActs_23 : decode cX8_isActs 23 = .ok (.ifCond .ne 5, 3) := by decide +kernel
theorem dX8_isActs_26 : decode cX8_isActs 26 = .ok (.iconst 0, 1) := by decide +kernel
theorem dX8_isActs_27 : decode cX8_isActs 27 = .ok (.ireturn, 1) := by decide +kernel
theorem dX8_isActs_28 : decode cX8_isActs 28 = .ok (.iload_n 0, 1) := by decide +kernel
theorem dX8_isActs_29 : decode cX8_isActs 29 = .ok (.bipush 9, 2) := by decide +kernel
theorem dX8_isActs_31 : decode cX8_isActs 31 = .ok (.if_icmp .lt 7, 3) := by decide +kernel
theorem dX8_isActs_34 : decode cX8_isActs 34 = .ok (.iconst 1, 1) := by decide +kernel
theorem dX8_isActs_35 : decode cX8_isActs 35 = .ok (.goto 4, 3) := by decide +kernel
theorem dX8_isActs_38 : decode cX8_isActs 38 = .ok (.iconst 0, 1) := by decide +kernel
theorem dX8_isActs_39 : decode cX8_isActs 39 = .ok (.istore 4, 2) := by decide +kernel
theorem dX8_isActs_41 : decode cX8_isActs 41 = .ok (.iload_n 0, 1) := by decide +kernel
theorem dX8_isActs_42 : decode cX8_isActs 42 = .ok (.ifCond .ne 18, 3) := by decide +kernel
theorem dX8_isActs_45 : decode cX8_isActs 45 = .ok (.iload_n 2, 1) := by decide +kernel
theorem dX8_isActs_46 : decode cX8_isActs 46 = .ok (.i2l, 1) := by decide +kernel
theorem dX8_isActs_47 : decode cX8_isActs 47 = .ok (.lconst 0, 1) := by decide +kernel
theorem dX8_isActs_48 : decode cX8_isActs 48 = .ok (.ldc2_w 148, 3) := by decide +kernel
theorem dX8_isActs_51 : decode cX8_isActs 51 = .ok (.invokestatic 128, 3) := by decide +kernel
theorem dX8_isActs_54 : decode cX8_isActs 54 = .ok (.ifCond .ne 33, 3) := by decide +kernel
theorem dX8_isActs_57 : decode cX8_isActs 57 = .ok (.goto 28, 3) := by decide +kernel
theorem dX8_isActs_60 : decode cX8_isActs 60 = .ok (.iload 4, 2) := by decide +kernel
theorem dX8_isActs_62 : decode cX8_isActs 62 = .ok (.ifCond .eq 16, 3) := by decide +kernel
theorem dX8_isActs_65 : decode cX8_isActs 65 = .ok (.iload_n 2, 1) := by decide +kernel
theorem dX8_isActs_66 : decode cX8_isActs 66 = .ok (.i2l, 1) := by decide +kernel
theorem dX8_isActs_67 : decode cX8_isActs 67 = .ok (.lconst 0, 1) := by decide +kernel
theorem dX8_isActs_68 : decode cX8_isActs 68 = .ok (.lconst 1, 1) := by decide +kernel
theorem dX8_isActs_69 : decode cX8_isActs 69 = .ok (.invokestatic 128, 3) := by decide +kernel
theorem dX8_isActs_72 : decode cX8_isActs 72 = .ok (.ifCond .ne 15, 3) := by decide +kernel
theorem dX8_isActs_75 : decode cX8_isActs 75 = .ok (.goto 10, 3) := by decide +kernel
theorem dX8_isActs_78 : decode cX8_isActs 78 = .ok (.iload_n 2, 1) := by decide +kernel
theorem dX8_isActs_79 : decode cX8_isActs 79 = .ok (.invokestatic 118, 3) := by decide +kernel
theorem dX8_isActs_82 : decode cX8_isActs 82 = .ok (.ifCond .ne 5, 3) := by decide +kernel
theorem dX8_isActs_85 : decode cX8_isActs 85 = .ok (.iconst 0, 1) := by decide +kernel
theorem dX8_isActs_86 : decode cX8_isActs 86 = .ok (.ireturn, 1) := by decide +kernel
theorem dX8_isActs_87 : decode cX8_isActs 87 = .ok (.iload_n 0, 1) := by decide +kernel
theorem dX8_isActs_88 : decode cX8_isActs 88 = .ok (.invokestatic 150, 3) := by decide +kernel
theorem dX8_isActs_91 : decode cX8_isActs 91 = .ok (.ifCond .ne 5, 3) := by decide +kernel
theorem dX8_isActs_94 : decode cX8_isActs 94 = .ok (.iconst 1, 1) := by decide +kernel
theorem dX8_isActs_95 : decode cX8_isActs 95 = .ok (.ireturn, 1) := by decide +kernel
theorem dX8_isActs_96 : decode cX8_isActs 96 = .ok (.iload_n 0, 1) := by decide +kernel
theorem dX8_isActs_97 : decode cX8_isActs 97 = .ok (.bipush 6, 2) := by decide +kernel
theorem dX8_isActs_99 : decode cX8_isActs 99 = .ok (.if_icmp .ne 17, 3) := by decide +kernel
theorem dX8_isActs_102 : decode cX8_isActs 102 = .ok (.iload_n 3, 1) := by decide +kernel
theorem dX8_isActs_103 : decode cX8_isActs 103 = .ok (.i2l, 1) := by decide +kernel
theorem dX8_isActs_104 : decode cX8_isActs 104 = .ok (.ldc2_w 153, 3) := by decide +kernel
theorem dX8_isActs_107 : decode cX8_isActs 107 = .ok (.ldc2_w 155, 3) := by decide +kernel
theorem dX8_isActs_110 : decode cX8_isActs 110 = .ok (.invokestatic 128, 3) := by decide +kernel
theorem dX8_isActs_113 : decode cX8_isActs 113 = .ok (.goto 22, 3) := by decide +kernel
theorem dX8_isActs_116 : decode cX8_isActs 116 = .ok (.iload 4, 2) := by decide +kernel
theorem dX8_isActs_118 : decode cX8_isActs 118 = .ok (.ifCond .eq 13, 3) := by decide +kernel
theorem dX8_isActs_121 : decode cX8_isActs 121 = .ok (.iload_n 3, 1) := by decide +kernel
theorem dX8_isActs_122 : decode cX8_isActs 122 = .ok (.i2l, 1) := by decide +kernel
theorem dX8_isActs_123 : decode cX8_isActs 123 = .ok (.lconst 0, 1) := by decide +kernel
theorem dX8_isActs_124 : decode cX8_isActs 124 = .ok (.lconst 1, 1) := by decide +kernel
theorem dX8_isActs_125 : decode cX8_isActs 125 = .ok (.invokestatic 128, 3) := by decide +kernel
theorem dX8_isActs_128 : decode cX8_isActs 128 = .ok (.goto 7, 3) := by decide +kernel
theorem dX8_isActs_131 : decode cX8_isActs 131 = .ok (.iload_n 3, 1) := by decide +kernel
theorem dX8_isActs_132 : decode cX8_isActs 132 = .ok (.invokestatic 118, 3) := by decide +kernel
theorem dX8_isActs_135 : decode cX8_isActs 135 = .ok (.ireturn, 1) := by decide +kernel
set_option maxRecDepth 20000 in
theorem ggX8_act_X8_isInstruction : GoodIn wsX8_act wsX8_isInstruction := goodIn_r _ [11] rfl (by decide +kernel)
set_option maxRecDepth 20000 in
theorem gX8_act_X8_isInstruction : GoodIn wsX8_act (va_wsS RX8 157 yX8_isInstruction wsX8_isInstruction) := goodIn_app (goodIn_of _ (by decide +kernel)) ggX8_act_X8_isInstruction
set_option maxRecDepth 20000 in
theorem ggX8_act_X8_no : GoodIn wsX8_act wsX8_no := goodIn_r _ [15, 16, 36, 37, 38, 39, 40, 41, 42, 43, 44, 45, 46, 47, 48, 49, 50, 51, 52, 53, 54, 55, 56, 57, 58, 59, 60, 61, 62, 63, 64, 65, 66, 67, 68, 69, 70, 71, 72, 73, 74, 75, 76, 77, 78, 79] rfl (by decide +kernel)
set_option maxRecDepth 20000 in
theorem gX8_act_X8_no : GoodIn wsX8_act (wsV RX8 122 RX8 yX8_no wsX8_no) := goodIn_app (goodIn_of _ (by decide +kernel)) ggX8_act_X8_no
set_option maxRecDepth 20000 in
theorem ggX8_act_X8_isActs : GoodIn wsX8_act wsX8_isActs := goodIn_r _ [19, 20, 21, 22, 23, 24, 25, 10, 26, 27, 28, 29, 30, 31, 32, 33, 34, 35] rfl (by decide +kernel)
set_option maxRecDepth 20000 in
theorem gX8_act_X8_isActs : GoodIn wsX8_act (va_wsS RX8 160 yX8_isActs wsX8_isActs) := goodIn_app (goodIn_of _ (by decide +kernel)) ggX8_act_X8_isActs
set_option maxRecDepth 20000 in
theorem ggX8_act_X8_hasD : GoodIn wsX8_act wsX8_hasD := goodIn_r _ [29] rfl (by decide +kernel)
set_option maxRecDepth 20000 in
theorem gX8_act_X8_hasD : GoodIn wsX8_act (va_wsS RX8 145 yX8_hasD wsX8_hasD) := goodIn_app (goodIn_of _ (by decide +kernel)) ggX8_act_X8_hasD
set_option maxRecDepth 20000 in
theorem ggX8_act_X8_hasY : GoodIn wsX8_act wsX8_hasY := goodIn_r _ [35] rfl (by decide +kernel)
set_option maxRecDepth 20000 in
theorem gX8_act_X8_hasY : GoodIn wsX8_act (va_wsS RX8 150 yX8_hasY wsX8_hasY) := goodIn_app (goodIn_of _ (by decide +kernel)) ggX8_act_X8_hasY
theorem dX8_act_0 : decode cX8_act 0 = .ok (.iload_n 1, 1) := by decide +kernel
theorem dX8_act_1 : decode cX8_act 1 = .ok (.invokestatic 157, 3) := by decide +kernel
theorem dX8_act_4 : decode cX8_act 4 = .ok (.ifCond .ne 10, 3) := by decide +kernel
theorem dX8_act_7 : decode cX8_act 7 = .ok (.aload_n 0, 1) := by decide +kernel
theorem dX8_act_8 : decode cX8_act 8 = .ok (.bipush (-3), 2) := by decide +kernel
theorem dX8_act_10 : decode cX8_act 10 = .ok (.invokevirtual 122, 3) := by decide +kernel
theorem dX8_act_13 : decode cX8_act 13 = .ok (.ireturn, 1) := by decide +kernel
theorem dX8_act_14 : decode cX8_act 14 = .ok (.iload_n 2, 1) := by decide +kernel
theorem dX8_act_15 : decode cX8_act 15 = .ok (.iload_n 3, 1) := by decide +kernel
theorem dX8_act_16 : decode cX8_act 16 = .ok (.iload 4, 2) := by decide +kernel
theorem dX8_act_18 : decode cX8_act 18 = .ok (.iload 5, 2) := by decide +kernel
theorem dX8_act_20 : decode cX8_act 20 = .ok (.invokestatic 160, 3) := by decide +kernel
theorem dX8_act_23 : decode cX8_act 23 = .ok (.ifCond .ne 10, 3) := by decide +kernel
theorem dX8_act_26 : decode cX8_act 26 = .ok (.aload_n 0, 1) := by decide +kernel
theorem dX8_act_27 : decode cX8_act 27 = .ok (.bipush (-6), 2) := by decide +kernel
theorem dX8_act_29 : decode cX8_act 29 = .ok (.invokevirtual 122, 3) := by decide +kernel
theorem dX8_act_32 : decode cX8_act 32 = .ok (.ireturn, 1) := by decide +kernel
theorem dX8_act_33 : decode cX8_act 33 = .ok (.aload_n 0, 1) := by decide +kernel
theorem dX8_act_34 : decode cX8_act 34 = .ok (.getfield 41, 3) := by decide +kernel
theorem dX8_act_37 : decode cX8_act 37 = .ok (.iload_n 1, 1) := by decide +kernel
theorem dX8_act_38 : decode cX8_act 38 = .ok (.iaload, 1) := by decide +kernel
theorem dX8_act_39 : decode cX8_act 39 = .ok (.bipush 10, 2) := by decide +kernel
theorem dX8_act_41 : decode cX8_act 41 = .ok (.if_icmp .ne 10, 3) := by decide +kernel
theorem dX8_act_51 : decode cX8_act 51 = .ok (.bipush 10, 2) := by decide +kernel
theorem dX8_act_53 : decode cX8_act 53 = .ok (.iload_n 1, 1) := by decide +kernel
theorem dX8_act_54 : decode cX8_act 54 = .ok (.imul, 1) := by decide +kernel
theorem dX8_act_55 : decode cX8_act 55 = .ok (.aload_n 0, 1) := by decide +kernel
theorem dX8_act_56 : decode cX8_act 56 = .ok (.getfield 41, 3) := by decide +kernel
theorem dX8_act_59 : decode cX8_act 59 = .ok (.iload_n 1, 1) := by decide +kernel
theorem dX8_act_60 : decode cX8_act 60 = .ok (.iaload, 1) := by decide +kernel
theorem dX8_act_61 : decode cX8_act 61 = .ok (.iadd, 1) := by decide +kernel
theorem dX8_act_62 : decode cX8_act 62 = .ok (.istore 6, 2) := by decide +kernel
theorem dX8_act_64 : decode cX8_act 64 = .ok (.aload_n 0, 1) := by decide +kernel
theorem dX8_act_65 : decode cX8_act 65 = .ok (.getfield 29, 3) := by decide +kernel
theorem dX8_act_68 : decode cX8_act 68 = .ok (.iload 6, 2) := by decide +kernel
theorem dX8_act_70 : decode cX8_act 70 = .ok (.iload_n 2, 1) := by decide +kernel
theorem dX8_act_71 : decode cX8_act 71 = .ok (.iastore, 1) := by decide +kernel
theorem dX8_act_72 : decode cX8_act 72 = .ok (.aload_n 0, 1) := by decide +kernel
theorem dX8_act_73 : decode cX8_act 73 = .ok (.getfield 32, 3) := by decide +kernel
theorem dX8_act_76 : decode cX8_act 76 = .ok (.iload 6, 2) := by decide +kernel
theorem dX8_act_78 : decode cX8_act 78 = .ok (.iload_n 2, 1) := by decide +kernel
theorem dX8_act_79 : decode cX8_act 79 = .ok (.invokestatic 145, 3) := by decide +kernel
theorem dX8_act_82 : decode cX8_act 82 = .ok (.ifCond .eq 7, 3) := by decide +kernel
theorem dX8_act_85 : decode cX8_act 85 = .ok (.iload_n 3, 1) := by decide +kernel
theorem dX8_act_86 : decode cX8_act 86 = .ok (.goto 4, 3) := by decide +kernel
theorem dX8_act_89 : decode cX8_act 89 = .ok (.iconst (-1), 1) := by decide +kernel
theorem dX8_act_90 : decode cX8_act 90 = .ok (.iastore, 1) := by decide +kernel
theorem dX8_act_91 : decode cX8_act 91 = .ok (.aload_n 0, 1) := by decide +kernel
theorem dX8_act_92 : decode cX8_act 92 = .ok (.getfield 35, 3) := by decide +kernel
theorem dX8_act_95 : decode cX8_act 95 = .ok (.iload 6, 2) := by decide +kernel
theorem dX8_act_97 : decode cX8_act 97 = .ok (.iload 4, 2) := by decide +kernel
theorem dX8_act_99 : decode cX8_act 99 = .ok (.iastore, 1) := by decide +kernel
theorem dX8_act_100 : decode cX8_act 100 = .ok (.aload_n 0, 1) := by decide +kernel
theorem dX8_act_101 : decode cX8_act 101 = .ok (.getfield 38, 3) := by decide +kernel
theorem dX8_act_104 : decode cX8_act 104 = .ok (.iload 6, 2) := by decide +kernel
theorem dX8_act_106 : decode cX8_act 106 = .ok (.iload_n 2, 1) := by decide +kernel
theorem dX8_act_107 : decode cX8_act 107 = .ok (.invokestatic 150, 3) := by decide +kernel
theorem dX8_act_110 : decode cX8_act 110 = .ok (.ifCond .eq 8, 3) := by decide +kernel
theorem dX8_act_113 : decode cX8_act 113 = .ok (.iload 5, 2) := by decide +kernel
theorem dX8_act_115 : decode cX8_act 115 = .ok (.goto 4, 3) := by decide +kernel
theorem dX8_act_118 : decode cX8_act 118 = .ok (.iconst (-1), 1) := by decide +kernel
theorem dX8_act_119 : decode cX8_act 119 = .ok (.iastore, 1) := by decide +kernel
theorem dX8_act_120 : decode cX8_act 120 = .ok (.aload_n 0, 1) := by decide +kernel
theorem dX8_act_121 : decode cX8_act 121 = .ok (.getfield 41, 3) := by decide +kernel
theorem dX8_act_124 : decode cX8_act 124 = .ok (.iload_n 1, 1) := by decide +kernel
theorem dX8_act_125 : decode cX8_act 125 = .ok (.dup2, 1) := by decide +kernel
theorem dX8_act_126 : decode cX8_act 126 = .ok (.iaload, 1) := by decide +kernel
theorem dX8_act_127 : decode cX8_act 127 = .ok (.iconst 1, 1) := by decide +kernel
theorem dX8_act_128 : decode cX8_act 128 = .ok (.iadd, 1) := by decide +kernel
theorem dX8_act_129 : decode cX8_act 129 = .ok (.iastore, 1) := by decide +kernel
theorem dX8_act_130 : decode cX8_act 130 = .ok (.aload_n 0, 1) := by decide +kernel
theorem dX8_act_131 : decode cX8_act 131 = .ok (.getfield 66, 3) := by decide +kernel
theorem dX8_act_134 : decode cX8_act 134 = .ok (.iload_n 1, 1) := by decide +kernel
theorem dX8_act_135 : decode cX8_act 135 = .ok (.iconst 0, 1) := by decide +kernel
theorem dX8_act_136 : decode cX8_act 136 = .ok (.bastore, 1) := by decide +kernel
theorem dX8_act_137 : decode cX8_act 137 = .ok (.aload_n 0, 1) := by decide +kernel
theorem dX8_act_138 : decode cX8_act 138 = .ok (.iconst 0, 1) := by decide +kernel
theorem dX8_act_139 : decode cX8_act 139 = .ok (.putfield 164, 3) := by decide +kernel
theorem dX8_act_142 : decode cX8_act 142 = .ok (.aload_n 0, 1) := by decide +kernel
theorem dX8_act_143 : decode cX8_act 143 = .ok (.getfield 41, 3) := by decide +kernel
theorem dX8_act_146 : decode cX8_act 146 = .ok (.iload_n 1, 1) := by decide +kernel
theorem dX8_act_147 : decode cX8_act 147 = .ok (.iaload, 1) := by decide +kernel
theorem dX8_act_148 : decode cX8_act 148 = .ok (.ireturn, 1) := by decide +kernel
set_option maxRecDepth 20000 in
theorem ggX8_clear_X8_isInstruction : GoodIn wsX8_clear wsX8_isInstruction := goodIn_r _ [7] rfl (by decide +kernel)
set_option maxRecDepth 20000 in
theorem gX8_clear_X8_isInstruction : GoodIn wsX8_clear (va_wsS RX8 157 yX8_isInstruction wsX8_isInstruction) := goodIn_app (goodIn_of _ (by decide +kernel)) ggX8_clear_X8_isInstruction
set_option maxRecDepth 20000 in
theorem ggX8_clear_X8_no : GoodIn wsX8_clear wsX8_no := goodIn_r _ [11, 12, 13, 14, 15, 16, 17, 18, 19, 20, 21, 22, 23, 24, 25, 26, 27, 28, 29, 30, 31, 32, 33, 34, 35, 36, 37, 38, 39, 40, 41, 42, 43, 44, 45, 46, 47, 48, 49, 50, 51, 52, 53, 54, 55, 56] rfl (by decide +kernel)
set_option maxRecDepth 20000 in
theorem gX8_clear_X8_no : GoodIn wsX8_clear (wsV RX8 122 RX8 yX8_no wsX8_no) := goodIn_app (goodIn_of _ (by decide +kernel)) ggX8_clear_X8_no
theorem dX8_clear_0 : decode cX8_clear 0 = .ok (.iload_n 1, 1) := by decide +kernel
theorem dX8_clear_1 : decode cX8_clear 1 = .ok (.invokestatic 157, 3) := by decide +kernel
theorem dX8_clear_4 : decode cX8_clear 4 = .ok (.ifCond .ne 10, 3) := by decide +kernel
theorem dX8_clear_7 : decode cX8_clear 7 = .ok (.aload_n 0, 1) := by decide +kernel
theorem dX8_clear_8 : decode cX8_clear 8 = .ok (.bipush (-3), 2) := by decide +kernel
theorem dX8_clear_10 : decode cX8_clear 10 = .ok (.invokevirtual 122, 3) := by decide +kernel
theorem dX8_clear_13 : decode cX8_clear 13 = .ok (.ireturn, 1) := by decide +kernel
theorem dX8_clear_14 : decode cX8_clear 14 = .ok (.aload_n 0, 1) := by decide +kernel
theorem dX8_clear_15 : decode cX8_clear 15 = .ok (.getfield 41, 3) := by decide +kernel
theorem dX8_clear_18 : decode cX8_clear 18 = .ok (.iload_n 1, 1) := by decide +kernel
theorem dX8_clear_19 : decode cX8_clear 19 = .ok (.iaload, 1) := by decide +kernel
theorem dX8_clear_20 : decode cX8_clear 20 = .ok (.istore_n 2, 1) := by decide +kernel
theorem dX8_clear_21 : decode cX8_clear 21 = .ok (.iload_n 2, 1) := by decide +kernel
theorem dX8_clear_22 : decode cX8_clear 22 = .ok (.ifCond .ne 5, 3) := by decide +kernel
theorem dX8_clear_25 : decode cX8_clear 25 = .ok (.iconst 0, 1) := by decide +kernel
theorem dX8_clear_26 : decode cX8_clear 26 = .ok (.ireturn, 1) := by decide +kernel
set_option maxRecDepth 20000 in
theorem ggX8_isAct_X8_isInstruction : GoodIn wsX8_isAct wsX8_isInstruction := goodIn_r _ [5] rfl (by decide +kernel)
set_option maxRecDepth 20000 in
theorem gX8_isAct_X8_isInstruction : GoodIn wsX8_isAct (va_wsS RX8 157 yX8_isInstruction wsX8_isInstruction) := goodIn_app (goodIn_of _ (by decide +kernel)) ggX8_isAct_X8_isInstruction
theorem dX8_isAct_0 : decode cX8_isAct 0 = .ok (.iload_n 1, 1) := by decide +kernel
theorem dX8_isAct_1 : decode cX8_isAct 1 = .ok (.invokestatic 157, 3) := by decide +kernel
theorem dX8_isAct_4 : decode cX8_isAct 4 = .ok (.ifCond .eq 21, 3) := by decide +kernel
theorem dX8_isAct_7 : decode cX8_isAct 7 = .ok (.iload_n 2, 1) := by decide +kernel
theorem dX8_isAct_8 : decode cX8_isAct 8 = .ok (.ifCond .lt 17, 3) := by decide +kernel
theorem dX8_isAct_11 : decode cX8_isAct 11 = .ok (.iload_n 2, 1) := by decide +kernel
theorem dX8_isAct_12 : decode cX8_isAct 12 = .ok (.aload_n 0, 1) := by decide +kernel
theorem dX8_isAct_13 : decode cX8_isAct 13 = .ok (.getfield 41, 3) := by decide +kernel
theorem dX8_isAct_16 : decode cX8_isAct 16 = .ok (.iload_n 1, 1) := by decide +kernel
theorem dX8_isAct_17 : decode cX8_isAct 17 = .ok (.iaload, 1) := by decide +kernel
theorem dX8_isAct_18 : decode cX8_isAct 18 = .ok (.if_icmp .ge 7, 3) := by decide +kernel
theorem dX8_isAct_21 : decode cX8_isAct 21 = .ok (.iconst 1, 1) := by decide +kernel
theorem dX8_isAct_22 : decode cX8_isAct 22 = .ok (.goto 4, 3) := by decide +kernel
theorem dX8_isAct_25 : decode cX8_isAct 25 = .ok (.iconst 0, 1) := by decide +kernel
theorem dX8_isAct_26 : decode cX8_isAct 26 = .ok (.ireturn, 1) := by decide +kernel
set_option maxRecDepth 20000 in
theorem ggX8_look_X8_isAct : GoodIn wsX8_look wsX8_isAct := goodIn_r _ [9, 10, 11, 12, 8, 13, 25, 26, 27, 28, 29, 30, 31, 32, 33, 34, 35, 36, 37, 38, 39, 40, 41, 42, 43, 44, 45, 46, 47, 48, 49, 50, 51, 52, 53, 54, 55, 56, 57, 58, 59, 60, 61, 62, 63, 64, 65, 66, 67, 68] rfl (by decide +kernel)
set_option maxRecDepth 20000 in
theorem gX8_look_X8_isAct : GoodIn wsX8_look (wsV RX8 168 RX8 yX8_isAct wsX8_isAct) := goodIn_app (goodIn_of _ (by decide +kernel)) ggX8_look_X8_isAct
set_option maxRecDepth 20000 in
theorem ggX8_look_X8_no : GoodIn wsX8_look wsX8_no := goodIn_r _ [17, 18, 25, 26, 27, 28, 29, 30, 31, 32, 33, 34, 35, 36, 37, 38, 39, 40, 41, 42, 43, 44, 45, 46, 47, 48, 49, 50, 51, 52, 53, 54, 55, 56, 57, 58, 59, 60, 61, 62, 63, 64, 65, 66, 67, 68] rfl (by decide +kernel)
set_option maxRecDepth 20000 in
theorem gX8_look_X8_no : GoodIn wsX8_look (wsV RX8 122 RX8 yX8_no wsX8_no) := goodIn_app (goodIn_of _ (by decide +kernel)) ggX8_look_X8_no
theorem dX8_look_0 : decode cX8_look 0 = .ok (.aload_n 0, 1) := by decide +kernel
theorem dX8_look_1 : decode cX8_look 1 = .ok (.iload_n 1, 1) := by decide +kernel
theorem dX8_look_2 : decode cX8_look 2 = .ok (.iload_n 2, 1) := by decide +kernel
theorem dX8_look_3 : decode cX8_look 3 = .ok (.invokevirtual 168, 3) := by decide +kernel
theorem dX8_look_6 : decode cX8_look 6 = .ok (.ifCond .ne 10, 3) := by decide +kernel
theorem dX8_look_9 : decode cX8_look 9 = .ok (.aload_n 0, 1) := by decide +kernel
theorem dX8_look_10 : decode cX8_look 10 = .ok (.bipush (-3), 2) := by decide +kernel
theorem dX8_look_12 : decode cX8_look 12 = .ok (.invokevirtual 122, 3) := by decide +kernel
theorem dX8_look_15 : decode cX8_look 15 = .ok (.ireturn, 1) := by decide +kernel
set_option maxRecDepth 20000 in
theorem ggX8_buses_X8_isIn : GoodIn wsX8_buses wsX8_isIn := goodIn_r _ [8] rfl (by decide +kernel)
set_option maxRecDepth 20000 in
theorem gX8_buses_X8_isIn : GoodIn wsX8_buses (va_wsS RX8 128 yX8_isIn wsX8_isIn) := goodIn_app (goodIn_of _ (by decide +kernel)) ggX8_buses_X8_isIn
set_option maxRecDepth 20000 in
theorem ggX8_buses_X8_no : GoodIn wsX8_buses wsX8_no := goodIn_r _ [12, 13, 14, 15, 16, 17, 18, 19, 20, 21, 22, 23, 24, 25, 26, 27, 28, 29, 30, 31, 32, 33, 34, 35, 36, 37, 38, 39, 40, 41, 42, 43, 44, 45, 46, 47, 48, 49, 50, 51, 52, 53, 54, 55, 56, 57] rfl (by decide +kernel)
set_option maxRecDepth 20000 in
theorem gX8_buses_X8_no : GoodIn wsX8_buses (wsV RX8 122 RX8 yX8_no wsX8_no) := goodIn_app (goodIn_of _ (by decide +kernel)) ggX8_buses_X8_no
theorem dX8_buses_0 : decode cX8_buses 0 = .ok (.iload_n 1, 1) := by decide +kernel
theorem dX8_buses_1 : decode cX8_buses 1 = .ok (.i2l, 1) := by decide +kernel
theorem dX8_buses_2 : decode cX8_buses 2 = .ok (.lconst 1, 1) := by decide +kernel
theorem dX8_buses_3 : decode cX8_buses 3 = .ok (.ldc2_w 178, 3) := by decide +kernel
theorem dX8_buses_6 : decode cX8_buses 6 = .ok (.invokestatic 128, 3) := by decide +kernel
theorem dX8_buses_9 : decode cX8_buses 9 = .ok (.ifCond .ne 10, 3) := by decide +kernel
theorem dX8_buses_12 : decode cX8_buses 12 = .ok (.aload_n 0, 1) := by decide +kernel
theorem dX8_buses_13 : decode cX8_buses 13 = .ok (.bipush (-6), 2) := by decide +kernel
theorem dX8_buses_15 : decode cX8_buses 15 = .ok (.invokevirtual 122, 3) := by decide +kernel
theorem dX8_buses_18 : decode cX8_buses 18 = .ok (.ireturn, 1) := by decide +kernel
theorem dX8_buses_19 : decode cX8_buses 19 = .ok (.aload_n 0, 1) := by decide +kernel
theorem dX8_buses_20 : decode cX8_buses 20 = .ok (.getfield 44, 3) := by decide +kernel
theorem dX8_buses_23 : decode cX8_buses 23 = .ok (.istore_n 2, 1) := by decide +kernel
theorem dX8_buses_24 : decode cX8_buses 24 = .ok (.aload_n 0, 1) := by decide +kernel
theorem dX8_buses_25 : decode cX8_buses 25 = .ok (.iload_n 1, 1) := by decide +kernel
theorem dX8_buses_26 : decode cX8_buses 26 = .ok (.putfield 44, 3) := by decide +kernel
theorem dX8_buses_29 : decode cX8_buses 29 = .ok (.iconst 0, 1) := by decide +kernel
theorem dX8_buses_30 : decode cX8_buses 30 = .ok (.istore_n 3, 1) := by decide +kernel
theorem dX8_buses_31 : decode cX8_buses 31 = .ok (.iload_n 3, 1) := by decide +kernel
theorem dX8_buses_32 : decode cX8_buses 32 = .ok (.bipush 12, 2) := by decide +kernel
theorem dX8_buses_34 : decode cX8_buses 34 = .ok (.if_icmp .ge 21, 3) := by decide +kernel
theorem dX8_buses_37 : decode cX8_buses 37 = .ok (.iload_n 2, 1) := by decide +kernel
theorem dX8_buses_38 : decode cX8_buses 38 = .ok (.iload_n 1, 1) := by decide +kernel
theorem dX8_buses_39 : decode cX8_buses 39 = .ok (.if_icmp .eq 16, 3) := by decide +kernel
theorem dX8_buses_42 : decode cX8_buses 42 = .ok (.aload_n 0, 1) := by decide +kernel
theorem dX8_buses_43 : decode cX8_buses 43 = .ok (.getfield 66, 3) := by decide +kernel
theorem dX8_buses_46 : decode cX8_buses 46 = .ok (.iload_n 3, 1) := by decide +kernel
theorem dX8_buses_47 : decode cX8_buses 47 = .ok (.iconst 0, 1) := by decide +kernel
theorem dX8_buses_48 : decode cX8_buses 48 = .ok (.bastore, 1) := by decide +kernel
theorem dX8_buses_49 : decode cX8_buses 49 = .ok (.iinc 3 1, 3) := by decide +kernel
theorem dX8_buses_52 : decode cX8_buses 52 = .ok (.goto (-21), 3) := by decide +kernel
theorem dX8_buses_55 : decode cX8_buses 55 = .ok (.aload_n 0, 1) := by decide +kernel
theorem dX8_buses_56 : decode cX8_buses 56 = .ok (.aload_n 0, 1) := by decide +kernel
theorem dX8_buses_57 : decode cX8_buses 57 = .ok (.getfield 164, 3) := by decide +kernel
theorem dX8_buses_60 : decode cX8_buses 60 = .ok (.ifCond .eq 12, 3) := by decide +kernel
theorem dX8_buses_72 : decode cX8_buses 72 = .ok (.iconst 0, 1) := by decide +kernel
theorem dX8_buses_73 : decode cX8_buses 73 = .ok (.putfield 164, 3) := by decide +kernel
theorem dX8_buses_76 : decode cX8_buses 76 = .ok (.iload_n 2, 1) := by decide +kernel
theorem dX8_buses_77 : decode cX8_buses 77 = .ok (.ireturn, 1) := by decide +kernel
set_option maxRecDepth 20000 in
theorem ggX8_needs_X8_isAct : GoodIn wsX8_needs wsX8_isAct := goodIn_r _ [5, 6, 7, 8, 4, 9, 37, 38, 39, 40, 41, 42, 43, 44, 45, 46, 47, 48, 49, 50, 51, 52, 53, 54, 55, 56, 57, 58, 59, 60, 61, 62, 63, 64, 65, 66, 67, 68, 69, 70, 71, 72, 73, 74, 75, 76, 77, 78, 79, 80] rfl (by decide +kernel)
set_option maxRecDepth 20000 in
theorem gX8_needs_X8_isAct : GoodIn wsX8_needs (wsV RX8 168 RX8 yX8_isAct wsX8_isAct) := goodIn_app (goodIn_of _ (by decide +kernel)) ggX8_needs_X8_isAct
set_option maxRecDepth 20000 in
theorem ggX8_needs_X8_no : GoodIn wsX8_needs wsX8_no := goodIn_r _ [13, 14, 37, 38, 39, 40, 41, 42, 43, 44, 45, 46, 47, 48, 49, 50, 51, 52, 53, 54, 55, 56, 57, 58, 59, 60, 61, 62, 63, 64, 65, 66, 67, 68, 69, 70, 71, 72, 73, 74, 75, 76, 77, 78, 79, 80] rfl (by decide +kernel)
set_option maxRecDepth 20000 in
theorem gX8_needs_X8_no : GoodIn wsX8_needs (wsV RX8 122 RX8 yX8_no wsX8_no) := goodIn_app (goodIn_of _ (by decide +kernel)) ggX8_needs_X8_no
theorem dX8_needs_0 : decode cX8_needs 0 = .ok (.aload_n 0, 1) := by decide +kernel
theorem dX8_needs_1 : decode cX8_needs 1 = .ok (.iload_n 1, 1) := by decide +kernel
theorem dX8_needs_2 : decode cX8_needs 2 = .ok (.iload_n 2, 1) := by decide +kernel
theorem dX8_needs_3 : decode cX8_needs 3 = .ok (.invokevirtual 168, 3) := by decide +kernel
theorem dX8_needs_6 : decode cX8_needs 6 = .ok (.ifCond .eq 12, 3) := by decide +kernel
theorem dX8_needs_18 : decode cX8_needs 18 = .ok (.aload_n 0, 1) := by decide +kernel
theorem dX8_needs_19 : decode cX8_needs 19 = .ok (.bipush (-3), 2) := by decide +kernel
theorem dX8_needs_21 : decode cX8_needs 21 = .ok (.invokevirtual 122, 3) := by decide +kernel
theorem dX8_needs_24 : decode cX8_needs 24 = .ok (.ireturn, 1) := by decide +kernel
theorem dX8_packs_0 : decode cX8_packs 0 = .ok (.aload_n 0, 1) := by decide +kernel
theorem dX8_packs_1 : decode cX8_packs 1 = .ok (.getfield 66, 3) := by decide +kernel
theorem dX8_packs_4 : decode cX8_packs 4 = .ok (.iload_n 1, 1) := by decide +kernel
theorem dX8_packs_5 : decode cX8_packs 5 = .ok (.baload, 1) := by decide +kernel
theorem dX8_packs_6 : decode cX8_packs 6 = .ok (.ifCond .eq 4, 3) := by decide +kernel
theorem dX8_packs_9 : decode cX8_packs 9 = .ok (.return_, 1) := by decide +kernel
theorem dX8_packs_10 : decode cX8_packs 10 = .ok (.aload_n 0, 1) := by decide +kernel
theorem dX8_packs_11 : decode cX8_packs 11 = .ok (.getfield 41, 3) := by decide +kernel
theorem dX8_packs_14 : decode cX8_packs 14 = .ok (.iload_n 1, 1) := by decide +kernel
theorem dX8_packs_15 : decode cX8_packs 15 = .ok (.iaload, 1) := by decide +kernel
theorem dX8_packs_16 : decode cX8_packs 16 = .ok (.istore_n 2, 1) := by decide +kernel
theorem dX8_packs_17 : decode cX8_packs 17 = .ok (.iconst 1, 1) := by decide +kernel
theorem dX8_packs_18 : decode cX8_packs 18 = .ok (.iload_n 2, 1) := by decide +kernel
theorem dX8_packs_19 : decode cX8_packs 19 = .ok (.ishl, 1) := by decide +kernel
theorem dX8_packs_20 : decode cX8_packs 20 = .ok (.iconst 1, 1) := by decide +kernel
theorem dX8_packs_21 : decode cX8_packs 21 = .ok (.isub, 1) := by decide +kernel
theorem dX8_packs_22 : decode cX8_packs 22 = .ok (.istore_n 3, 1) := by decide +kernel
theorem dX8_packs_23 : decode cX8_packs 23 = .ok (.iconst 0, 1) := by decide +kernel
theorem dX8_packs_24 : decode cX8_packs 24 = .ok (.istore 4, 2) := by decide +kernel
theorem dX8_packs_26 : decode cX8_packs 26 = .ok (.iload 4, 2) := by decide +kernel
theorem dX8_packs_28 : decode cX8_packs 28 = .ok (.iload_n 2, 1) := by decide +kernel
theorem dX8_packs_29 : decode cX8_packs 29 = .ok (.if_icmp .ge 101, 3) := by decide +kernel
theorem dX8_packs_130 : decode cX8_packs 130 = .ok (.aload_n 0, 1) := by decide +kernel
theorem dX8_packs_131 : decode cX8_packs 131 = .ok (.getfield 51, 3) := by decide +kernel
theorem dX8_packs_134 : decode cX8_packs 134 = .ok (.iload_n 3, 1) := by decide +kernel
theorem dX8_packs_135 : decode cX8_packs 135 = .ok (.iconst 0, 1) := by decide +kernel
theorem dX8_packs_136 : decode cX8_packs 136 = .ok (.iastore, 1) := by decide +kernel
theorem dX8_packs_137 : decode cX8_packs 137 = .ok (.iload_n 3, 1) := by decide +kernel
theorem dX8_packs_138 : decode cX8_packs 138 = .ok (.iconst 1, 1) := by decide +kernel
theorem dX8_packs_139 : decode cX8_packs 139 = .ok (.isub, 1) := by decide +kernel
theorem dX8_packs_140 : decode cX8_packs 140 = .ok (.istore 4, 2) := by decide +kernel
theorem dX8_packs_142 : decode cX8_packs 142 = .ok (.iload 4, 2) := by decide +kernel
theorem dX8_packs_144 : decode cX8_packs 144 = .ok (.ifCond .lt 101, 3) := by decide +kernel
theorem dX8_packs_245 : decode cX8_packs 245 = .ok (.iconst 0, 1) := by decide +kernel
theorem dX8_packs_246 : decode cX8_packs 246 = .ok (.istore 4, 2) := by decide +kernel
theorem dX8_packs_248 : decode cX8_packs 248 = .ok (.iconst 0, 1) := by decide +kernel
theorem dX8_packs_249 : decode cX8_packs 249 = .ok (.istore 5, 2) := by decide +kernel
theorem dX8_packs_251 : decode cX8_packs 251 = .ok (.iload 4, 2) := by decide +kernel
theorem dX8_packs_253 : decode cX8_packs 253 = .ok (.iload_n 3, 1) := by decide +kernel
theorem dX8_packs_254 : decode cX8_packs 254 = .ok (.if_icmp .eq 116, 3) := by decide +kernel
theorem dX8_packs_370 : decode cX8_packs 370 = .ok (.aload_n 0, 1) := by decide +kernel
theorem dX8_packs_371 : decode cX8_packs 371 = .ok (.getfield 57, 3) := by decide +kernel
theorem dX8_packs_374 : decode cX8_packs 374 = .ok (.iload_n 1, 1) := by decide +kernel
theorem dX8_packs_375 : decode cX8_packs 375 = .ok (.iload 5, 2) := by decide +kernel
theorem dX8_packs_377 : decode cX8_packs 377 = .ok (.iastore, 1) := by decide +kernel
theorem dX8_packs_378 : decode cX8_packs 378 = .ok (.aload_n 0, 1) := by decide +kernel
theorem dX8_packs_379 : decode cX8_packs 379 = .ok (.getfield 66, 3) := by decide +kernel
theorem dX8_packs_382 : decode cX8_packs 382 = .ok (.iload_n 1, 1) := by decide +kernel
theorem dX8_packs_383 : decode cX8_packs 383 = .ok (.iconst 1, 1) := by decide +kernel
theorem dX8_packs_384 : decode cX8_packs 384 = .ok (.bastore, 1) := by decide +kernel
theorem dX8_packs_385 : decode cX8_packs 385 = .ok (.return_, 1) := by decide +kernel
set_option maxRecDepth 20000 in
theorem ggX8_pack_X8_isInstruction : GoodIn wsX8_pack wsX8_isInstruction := goodIn_r _ [5] rfl (by decide +kernel)
set_option maxRecDepth 20000 in
theorem gX8_pack_X8_isInstruction : GoodIn wsX8_pack (va_wsS RX8 157 yX8_isInstruction wsX8_isInstruction) := goodIn_app (goodIn_of _ (by decide +kernel)) ggX8_pack_X8_isInstruction
set_option maxRecDepth 20000 in
theorem ggX8_pack_X8_no : GoodIn wsX8_pack wsX8_no := goodIn_r _ [9, 10, 51, 52, 53, 54, 55, 56, 57, 58, 59, 60, 61, 62, 63, 64, 65, 66, 67, 68, 69, 70, 71, 72, 73, 74, 75, 76, 77, 78, 79, 80, 81, 82, 83, 84, 85, 86, 87, 88, 89, 90, 91, 92, 93, 94] rfl (by decide +kernel)
set_option maxRecDepth 20000 in
theorem gX8_pack_X8_no : GoodIn wsX8_pack (wsV RX8 122 RX8 yX8_no wsX8_no) := goodIn_app (goodIn_of _ (by decide +kernel)) ggX8_pack_X8_no
set_option maxRecDepth 20000 in
theorem ggX8_pack_X8_packs : GoodIn wsX8_pack wsX8_packs := goodIn_r _ [14, 15, 16, 17, 18, 19, 20, 1, 21, 22, 23, 4, 24, 25, 26, 27, 28, 29, 30, 31, 32, 33, 34, 35, 36, 37, 38, 39, 40, 41, 42, 43, 44, 45, 46, 47, 48, 49, 50, 51, 52, 53, 54, 55, 56, 57, 58, 59, 60, 61, 62, 63, 64, 65, 66, 67, 68, 69, 70, 71, 72, 73, 74, 75, 76, 77, 78, 79, 80, 81, 82, 83, 84, 85, 86, 87, 88, 89, 90, 91, 92, 93, 94] rfl (by decide +kernel)
set_option maxRecDepth 20000 in
theorem gX8_pack_X8_packs : GoodIn wsX8_pack (wsV RX8 194 RX8 yX8_packs wsX8_packs) := goodIn_app (goodIn_of _ (by decide +kernel)) ggX8_pack_X8_packs
theorem dX8_pack_0 : decode cX8_pack 0 = .ok (.iload_n 1, 1) := by decide +kernel
theorem dX8_pack_1 : decode cX8_pack 1 = .ok (.invokestatic 157, 3) := by decide +kernel
theorem dX8_pack_4 : decode cX8_pack 4 = .ok (.ifCond .ne 10, 3) := by decide +kernel
theorem dX8_pack_7 : decode cX8_pack 7 = .ok (.aload_n 0, 1) := by decide +kernel
theorem dX8_pack_8 : decode cX8_pack 8 = .ok (.bipush (-3), 2) := by decide +kernel
theorem dX8_pack_10 : decode cX8_pack 10 = .ok (.invokevirtual 122, 3) := by decide +kernel
theorem dX8_pack_13 : decode cX8_pack 13 = .ok (.ireturn, 1) := by decide +kernel
theorem dX8_pack_14 : decode cX8_pack 14 = .ok (.aload_n 0, 1) := by decide +kernel
theorem dX8_pack_15 : decode cX8_pack 15 = .ok (.iload_n 1, 1) := by decide +kernel
theorem dX8_pack_16 : decode cX8_pack 16 = .ok (.invokevirtual 194, 3) := by decide +kernel
theorem dX8_pack_19 : decode cX8_pack 19 = .ok (.aload_n 0, 1) := by decide +kernel
theorem dX8_pack_20 : decode cX8_pack 20 = .ok (.getfield 57, 3) := by decide +kernel
theorem dX8_pack_23 : decode cX8_pack 23 = .ok (.iload_n 1, 1) := by decide +kernel
theorem dX8_pack_24 : decode cX8_pack 24 = .ok (.iaload, 1) := by decide +kernel
theorem dX8_pack_25 : decode cX8_pack 25 = .ok (.ireturn, 1) := by decide +kernel
set_option maxRecDepth 20000 in
theorem ggX8_word_X8_isAct : GoodIn wsX8_word wsX8_isAct := goodIn_r _ [7, 8, 9, 10, 6, 11, 17, 18, 19, 20, 21, 22, 23, 24, 25, 26, 27, 28, 29, 30, 31, 32, 33, 34, 35, 36, 37, 38, 39, 40, 41, 42, 43, 44, 45, 46, 47, 48, 49, 50, 51, 52, 53, 54, 55, 56, 57, 58, 59, 60] rfl (by decide +kernel)
set_option maxRecDepth 20000 in
theorem gX8_word_X8_isAct : GoodIn wsX8_word (wsV RX8 168 RX8 yX8_isAct wsX8_isAct) := goodIn_app (goodIn_of _ (by decide +kernel)) ggX8_word_X8_isAct
set_option maxRecDepth 20000 in
theorem ggX8_word_X8_no : GoodIn wsX8_word wsX8_no := goodIn_r _ [15, 16, 17, 18, 19, 20, 21, 22, 23, 24, 25, 26, 27, 28, 29, 30, 31, 32, 33, 34, 35, 36, 37, 38, 39, 40, 41, 42, 43, 44, 45, 46, 47, 48, 49, 50, 51, 52, 53, 54, 55, 56, 57, 58, 59, 60] rfl (by decide +kernel)
set_option maxRecDepth 20000 in
theorem gX8_word_X8_no : GoodIn wsX8_word (wsV RX8 122 RX8 yX8_no wsX8_no) := goodIn_app (goodIn_of _ (by decide +kernel)) ggX8_word_X8_no
theorem dX8_word_0 : decode cX8_word 0 = .ok (.aload_n 0, 1) := by decide +kernel
theorem dX8_word_1 : decode cX8_word 1 = .ok (.iload_n 1, 1) := by decide +kernel
theorem dX8_word_2 : decode cX8_word 2 = .ok (.iload_n 2, 1) := by decide +kernel
theorem dX8_word_3 : decode cX8_word 3 = .ok (.invokevirtual 168, 3) := by decide +kernel
theorem dX8_word_6 : decode cX8_word 6 = .ok (.ifCond .ne 10, 3) := by decide +kernel
theorem dX8_word_9 : decode cX8_word 9 = .ok (.aload_n 0, 1) := by decide +kernel
theorem dX8_word_10 : decode cX8_word 10 = .ok (.bipush (-3), 2) := by decide +kernel
theorem dX8_word_12 : decode cX8_word 12 = .ok (.invokevirtual 122, 3) := by decide +kernel
theorem dX8_word_15 : decode cX8_word 15 = .ok (.ireturn, 1) := by decide +kernel
set_option maxRecDepth 20000 in
theorem ggX8_why_X8_isAct : GoodIn wsX8_why wsX8_isAct := goodIn_r _ [7, 8, 9, 10, 6, 11, 39, 40, 41, 42, 43, 44, 45, 46, 47, 48, 49, 50, 51, 52, 53, 54, 55, 56, 57, 58, 59, 60, 61, 62, 63, 64, 65, 66, 67, 68, 69, 70, 71, 72, 73, 74, 75, 76, 77, 78, 79, 80, 81, 82] rfl (by decide +kernel)
set_option maxRecDepth 20000 in
theorem gX8_why_X8_isAct : GoodIn wsX8_why (wsV RX8 168 RX8 yX8_isAct wsX8_isAct) := goodIn_app (goodIn_of _ (by decide +kernel)) ggX8_why_X8_isAct
set_option maxRecDepth 20000 in
theorem ggX8_why_X8_no : GoodIn wsX8_why wsX8_no := goodIn_r _ [15, 16, 39, 40, 41, 42, 43, 44, 45, 46, 47, 48, 49, 50, 51, 52, 53, 54, 55, 56, 57, 58, 59, 60, 61, 62, 63, 64, 65, 66, 67, 68, 69, 70, 71, 72, 73, 74, 75, 76, 77, 78, 79, 80, 81, 82] rfl (by decide +kernel)
set_option maxRecDepth 20000 in
theorem gX8_why_X8_no : GoodIn wsX8_why (wsV RX8 122 RX8 yX8_no wsX8_no) := goodIn_app (goodIn_of _ (by decide +kernel)) ggX8_why_X8_no
theorem dX8_why_0 : decode cX8_why 0 = .ok (.aload_n 0, 1) := by decide +kernel
theorem dX8_why_1 : decode cX8_why 1 = .ok (.iload_n 1, 1) := by decide +kernel
theorem dX8_why_2 : decode cX8_why 2 = .ok (.iload_n 2, 1) := by decide +kernel
theorem dX8_why_3 : decode cX8_why 3 = .ok (.invokevirtual 168, 3) := by decide +kernel
theorem dX8_why_6 : decode cX8_why 6 = .ok (.ifCond .ne 10, 3) := by decide +kernel
theorem dX8_why_9 : decode cX8_why 9 = .ok (.aload_n 0, 1) := by decide +kernel
theorem dX8_why_10 : decode cX8_why 10 = .ok (.bipush (-3), 2) := by decide +kernel
theorem dX8_why_12 : decode cX8_why 12 = .ok (.invokevirtual 122, 3) := by decide +kernel
theorem dX8_why_15 : decode cX8_why 15 = .ok (.ireturn, 1) := by decide +kernel
set_option maxRecDepth 20000 in
theorem ggX8_store_X8_packs : GoodIn wsX8_store wsX8_packs := goodIn_r _ [9, 10, 11, 12, 13, 14, 15, 2, 16, 17, 18, 8, 19, 20, 21, 22, 23, 24, 25, 26, 27, 28, 29, 30, 31, 32, 33, 34, 35, 36, 37, 38, 39, 40, 41, 42, 43, 44, 45, 92, 93, 94, 95, 96, 97, 98, 99, 100, 101, 102, 103, 104, 105, 106, 107, 108, 109, 110, 111, 112, 113, 114, 115, 116, 117, 118, 119, 120, 121, 122, 123, 124, 125, 126, 127, 128, 129, 130, 131, 132, 133, 134, 135] rfl (by decide +kernel)
set_option maxRecDepth 20000 in
theorem gX8_store_X8_packs : GoodIn wsX8_store (wsV RX8 194 RX8 yX8_packs wsX8_packs) := goodIn_app (goodIn_of _ (by decide +kernel)) ggX8_store_X8_packs
set_option maxRecDepth 20000 in
theorem ggX8_store_X8_findFields : GoodIn wsX8_store wsX8_findFields := goodIn_r _ [69, 70, 71, 1, 72, 52, 53, 20, 73, 74, 75, 8, 76, 58, 59, 60, 61, 11, 15, 43, 44, 45, 77, 78, 79, 80, 62, 63, 64, 65, 25, 33, 34, 81, 82, 83, 84, 85, 86, 87, 88, 89, 90, 91, 92, 93, 94, 95, 96, 97, 98, 99, 100, 101, 102, 103, 104, 105, 106, 107, 108, 109, 110, 111, 112, 113, 114, 115, 116, 117, 118, 119, 120, 121, 122, 123, 124, 125, 126, 127, 128, 129, 130, 131, 132, 133, 134, 135] rfl (by decide +kernel)
set_option maxRecDepth 20000 in
theorem gX8_store_X8_findFields : GoodIn wsX8_store (wsV RX8 214 RX8 yX8_findFields wsX8_findFields) := goodIn_app (goodIn_of _ (by decide +kernel)) ggX8_store_X8_findFields
theorem dX8_store_0 : decode cX8_store 0 = .ok (.aload_n 0, 1) := by decide +kernel
theorem dX8_store_1 : decode cX8_store 1 = .ok (.iconst 0, 1) := by decide +kernel
theorem dX8_store_2 : decode cX8_store 2 = .ok (.putfield 205, 3) := by decide +kernel
theorem dX8_store_5 : decode cX8_store 5 = .ok (.iconst 0, 1) := by decide +kernel
theorem dX8_store_6 : decode cX8_store 6 = .ok (.istore_n 1, 1) := by decide +kernel
theorem dX8_store_7 : decode cX8_store 7 = .ok (.iload_n 1, 1) := by decide +kernel
theorem dX8_store_8 : decode cX8_store 8 = .ok (.bipush 12, 2) := by decide +kernel
theorem dX8_store_10 : decode cX8_store 10 = .ok (.if_icmp .ge 55, 3) := by decide +kernel
theorem dX8_store_13 : decode cX8_store 13 = .ok (.aload_n 0, 1) := by decide +kernel
theorem dX8_store_14 : decode cX8_store 14 = .ok (.iload_n 1, 1) := by decide +kernel
theorem dX8_store_15 : decode cX8_store 15 = .ok (.invokevirtual 194, 3) := by decide +kernel
theorem dX8_store_18 : decode cX8_store 18 = .ok (.iconst (-1), 1) := by decide +kernel
theorem dX8_store_19 : decode cX8_store 19 = .ok (.istore_n 2, 1) := by decide +kernel
theorem dX8_store_20 : decode cX8_store 20 = .ok (.aload_n 0, 1) := by decide +kernel
theorem dX8_store_21 : decode cX8_store 21 = .ok (.getfield 57, 3) := by decide +kernel
theorem dX8_store_24 : decode cX8_store 24 = .ok (.iload_n 1, 1) := by decide +kernel
theorem dX8_store_25 : decode cX8_store 25 = .ok (.iaload, 1) := by decide +kernel
theorem dX8_store_26 : decode cX8_store 26 = .ok (.iconst 1, 1) := by decide +kernel
theorem dX8_store_27 : decode cX8_store 27 = .ok (.isub, 1) := by decide +kernel
theorem dX8_store_28 : decode cX8_store 28 = .ok (.istore_n 3, 1) := by decide +kernel
theorem dX8_store_29 : decode cX8_store 29 = .ok (.iload_n 3, 1) := by decide +kernel
theorem dX8_store_30 : decode cX8_store 30 = .ok (.ifCond .lt 29, 3) := by decide +kernel
theorem dX8_store_59 : decode cX8_store 59 = .ok (.iinc 1 1, 3) := by decide +kernel
theorem dX8_store_62 : decode cX8_store 62 = .ok (.goto (-55), 3) := by decide +kernel
theorem dX8_store_65 : decode cX8_store 65 = .ok (.aload_n 0, 1) := by decide +kernel
theorem dX8_store_66 : decode cX8_store 66 = .ok (.iconst 1, 1) := by decide +kernel
theorem dX8_store_67 : decode cX8_store 67 = .ok (.putfield 164, 3) := by decide +kernel
theorem dX8_store_70 : decode cX8_store 70 = .ok (.aload_n 0, 1) := by decide +kernel
theorem dX8_store_71 : decode cX8_store 71 = .ok (.invokevirtual 214, 3) := by decide +kernel
theorem dX8_store_74 : decode cX8_store 74 = .ok (.aload_n 0, 1) := by decide +kernel
theorem dX8_store_75 : decode cX8_store 75 = .ok (.getfield 205, 3) := by decide +kernel
theorem dX8_store_78 : decode cX8_store 78 = .ok (.ireturn, 1) := by decide +kernel
set_option maxRecDepth 20000 in
theorem ggX8_place_X8_isInstruction : GoodIn wsX8_place wsX8_isInstruction := goodIn_r _ [7] rfl (by decide +kernel)
set_option maxRecDepth 20000 in
theorem gX8_place_X8_isInstruction : GoodIn wsX8_place (va_wsS RX8 157 yX8_isInstruction wsX8_isInstruction) := goodIn_app (goodIn_of _ (by decide +kernel)) ggX8_place_X8_isInstruction
set_option maxRecDepth 20000 in
theorem ggX8_place_X8_no : GoodIn wsX8_place wsX8_no := goodIn_r _ [11, 12, 16, 17, 18, 19, 20, 21, 22, 23, 24, 25, 26, 27, 28, 29, 30, 31, 32, 33, 34, 35, 36, 37, 38, 39, 40, 41, 42, 43, 44, 45, 46, 47, 48, 49, 50, 51, 52, 53, 54, 55, 56, 57, 58, 59] rfl (by decide +kernel)
set_option maxRecDepth 20000 in
theorem gX8_place_X8_no : GoodIn wsX8_place (wsV RX8 122 RX8 yX8_no wsX8_no) := goodIn_app (goodIn_of _ (by decide +kernel)) ggX8_place_X8_no
theorem dX8_place_0 : decode cX8_place 0 = .ok (.iload_n 1, 1) := by decide +kernel
theorem dX8_place_1 : decode cX8_place 1 = .ok (.invokestatic 157, 3) := by decide +kernel
theorem dX8_place_4 : decode cX8_place 4 = .ok (.ifCond .ne 10, 3) := by decide +kernel
theorem dX8_place_7 : decode cX8_place 7 = .ok (.aload_n 0, 1) := by decide +kernel
theorem dX8_place_8 : decode cX8_place 8 = .ok (.bipush (-3), 2) := by decide +kernel
theorem dX8_place_10 : decode cX8_place 10 = .ok (.invokevirtual 122, 3) := by decide +kernel
theorem dX8_place_13 : decode cX8_place 13 = .ok (.ireturn, 1) := by decide +kernel
theorem dX8_place_14 : decode cX8_place 14 = .ok (.aload_n 0, 1) := by decide +kernel
theorem dX8_place_15 : decode cX8_place 15 = .ok (.getfield 164, 3) := by decide +kernel
theorem dX8_place_18 : decode cX8_place 18 = .ok (.ifCond .ne 10, 3) := by decide +kernel
theorem dX8_place_21 : decode cX8_place 21 = .ok (.aload_n 0, 1) := by decide +kernel
theorem dX8_place_22 : decode cX8_place 22 = .ok (.bipush (-2), 2) := by decide +kernel
theorem dX8_place_24 : decode cX8_place 24 = .ok (.invokevirtual 122, 3) := by decide +kernel
theorem dX8_place_27 : decode cX8_place 27 = .ok (.ireturn, 1) := by decide +kernel
set_option maxRecDepth 20000 in
theorem ggX8_at_X8_no : GoodIn wsX8_at wsX8_no := goodIn_r _ [9, 10, 26, 27, 28, 29, 30, 31, 32, 33, 34, 35, 36, 37, 38, 39, 40, 41, 42, 43, 44, 45, 46, 47, 48, 49, 50, 51, 52, 53, 54, 55, 56, 57, 58, 59, 60, 61, 62, 63, 64, 65, 66, 67, 68, 69] rfl (by decide +kernel)
set_option maxRecDepth 20000 in
theorem gX8_at_X8_no : GoodIn wsX8_at (wsV RX8 122 RX8 yX8_no wsX8_no) := goodIn_app (goodIn_of _ (by decide +kernel)) ggX8_at_X8_no
theorem dX8_at_0 : decode cX8_at 0 = .ok (.aload_n 0, 1) := by decide +kernel
theorem dX8_at_1 : decode cX8_at 1 = .ok (.getfield 164, 3) := by decide +kernel
theorem dX8_at_4 : decode cX8_at 4 = .ok (.ifCond .ne 10, 3) := by decide +kernel
theorem dX8_at_7 : decode cX8_at 7 = .ok (.aload_n 0, 1) := by decide +kernel
theorem dX8_at_8 : decode cX8_at 8 = .ok (.bipush (-2), 2) := by decide +kernel
theorem dX8_at_10 : decode cX8_at 10 = .ok (.invokevirtual 122, 3) := by decide +kernel
theorem dX8_at_13 : decode cX8_at 13 = .ok (.ireturn, 1) := by decide +kernel
set_option maxRecDepth 20000 in
theorem ggX8_findFields_X8_findGroups : GoodIn wsX8_findFields wsX8_findGroups := goodIn_r _ [36, 37, 38, 1, 39, 40, 41, 42, 11, 43, 2, 44, 45, 46, 47, 48, 49, 50, 51, 52, 53, 54, 55, 56, 57, 58, 59, 60, 61, 62, 63, 64, 65, 66, 67, 68, 69, 70, 71, 72, 73, 74, 75, 76, 77, 78, 79, 80, 81, 82, 83, 84, 85, 86, 87] rfl (by decide +kernel)
set_option maxRecDepth 20000 in
theorem gX8_findFields_X8_findGroups : GoodIn wsX8_findFields (wsV RX8 223 RX8 yX8_findGroups wsX8_findGroups) := goodIn_app (goodIn_of _ (by decide +kernel)) ggX8_findFields_X8_findGroups
theorem dX8_findFields_0 : decode cX8_findFields 0 = .ok (.iconst 0, 1) := by decide +kernel
theorem dX8_findFields_1 : decode cX8_findFields 1 = .ok (.istore_n 1, 1) := by decide +kernel
theorem dX8_findFields_2 : decode cX8_findFields 2 = .ok (.iload_n 1, 1) := by decide +kernel
theorem dX8_findFields_3 : decode cX8_findFields 3 = .ok (.bipush 7, 2) := by decide +kernel
theorem dX8_findFields_5 : decode cX8_findFields 5 = .ok (.if_icmp .ge 23, 3) := by decide +kernel
theorem dX8_findFields_8 : decode cX8_findFields 8 = .ok (.aload_n 0, 1) := by decide +kernel
theorem dX8_findFields_9 : decode cX8_findFields 9 = .ok (.getfield 88, 3) := by decide +kernel
theorem dX8_findFields_12 : decode cX8_findFields 12 = .ok (.iload_n 1, 1) := by decide +kernel
theorem dX8_findFields_13 : decode cX8_findFields 13 = .ok (.iconst 0, 1) := by decide +kernel
theorem dX8_findFields_14 : decode cX8_findFields 14 = .ok (.iastore, 1) := by decide +kernel
theorem dX8_findFields_15 : decode cX8_findFields 15 = .ok (.aload_n 0, 1) := by decide +kernel
theorem dX8_findFields_16 : decode cX8_findFields 16 = .ok (.getfield 91, 3) := by decide +kernel
theorem dX8_findFields_19 : decode cX8_findFields 19 = .ok (.iload_n 1, 1) := by decide +kernel
theorem dX8_findFields_20 : decode cX8_findFields 20 = .ok (.iconst 0, 1) := by decide +kernel
theorem dX8_findFields_21 : decode cX8_findFields 21 = .ok (.iastore, 1) := by decide +kernel
theorem dX8_findFields_22 : decode cX8_findFields 22 = .ok (.iinc 1 1, 3) := by decide +kernel
theorem dX8_findFields_25 : decode cX8_findFields 25 = .ok (.goto (-23), 3) := by decide +kernel
theorem dX8_findFields_28 : decode cX8_findFields 28 = .ok (.iconst 0, 1) := by decide +kernel
theorem dX8_findFields_29 : decode cX8_findFields 29 = .ok (.istore_n 1, 1) := by decide +kernel
theorem dX8_findFields_30 : decode cX8_findFields 30 = .ok (.iload_n 1, 1) := by decide +kernel
theorem dX8_findFields_31 : decode cX8_findFields 31 = .ok (.aload_n 0, 1) := by decide +kernel
theorem dX8_findFields_32 : decode cX8_findFields 32 = .ok (.getfield 205, 3) := by decide +kernel
theorem dX8_findFields_35 : decode cX8_findFields 35 = .ok (.if_icmp .ge 226, 3) := by decide +kernel
theorem dX8_findFields_261 : decode cX8_findFields 261 = .ok (.aload_n 0, 1) := by decide +kernel
theorem dX8_findFields_262 : decode cX8_findFields 262 = .ok (.invokevirtual 223, 3) := by decide +kernel
theorem dX8_findFields_265 : decode cX8_findFields 265 = .ok (.return_, 1) := by decide +kernel
theorem dX8_findGroups_0 : decode cX8_findGroups 0 = .ok (.aload_n 0, 1) := by decide +kernel
theorem dX8_findGroups_1 : decode cX8_findGroups 1 = .ok (.iconst 0, 1) := by decide +kernel
theorem dX8_findGroups_2 : decode cX8_findGroups 2 = .ok (.putfield 226, 3) := by decide +kernel
theorem dX8_findGroups_5 : decode cX8_findGroups 5 = .ok (.iconst 0, 1) := by decide +kernel
theorem dX8_findGroups_6 : decode cX8_findGroups 6 = .ok (.istore_n 1, 1) := by decide +kernel
theorem dX8_findGroups_7 : decode cX8_findGroups 7 = .ok (.iload_n 1, 1) := by decide +kernel
theorem dX8_findGroups_8 : decode cX8_findGroups 8 = .ok (.bipush 7, 2) := by decide +kernel
theorem dX8_findGroups_10 : decode cX8_findGroups 10 = .ok (.if_icmp .ge 100, 3) := by decide +kernel
theorem dX8_findGroups_13 : decode cX8_findGroups 13 = .ok (.aload_n 0, 1) := by decide +kernel
theorem dX8_findGroups_14 : decode cX8_findGroups 14 = .ok (.getfield 94, 3) := by decide +kernel
theorem dX8_findGroups_17 : decode cX8_findGroups 17 = .ok (.iload_n 1, 1) := by decide +kernel
theorem dX8_findGroups_18 : decode cX8_findGroups 18 = .ok (.iconst (-1), 1) := by decide +kernel
theorem dX8_findGroups_19 : decode cX8_findGroups 19 = .ok (.iastore, 1) := by decide +kernel
theorem dX8_findGroups_20 : decode cX8_findGroups 20 = .ok (.aload_n 0, 1) := by decide +kernel
theorem dX8_findGroups_21 : decode cX8_findGroups 21 = .ok (.getfield 88, 3) := by decide +kernel
theorem dX8_findGroups_24 : decode cX8_findGroups 24 = .ok (.iload_n 1, 1) := by decide +kernel
theorem dX8_findGroups_25 : decode cX8_findGroups 25 = .ok (.iaload, 1) := by decide +kernel
theorem dX8_findGroups_26 : decode cX8_findGroups 26 = .ok (.ifCond .ne 6, 3) := by decide +kernel
theorem dX8_findGroups_29 : decode cX8_findGroups 29 = .ok (.goto 75, 3) := by decide +kernel
theorem dX8_findGroups_104 : decode cX8_findGroups 104 = .ok (.iinc 1 1, 3) := by decide +kernel
theorem dX8_findGroups_107 : decode cX8_findGroups 107 = .ok (.goto (-100), 3) := by decide +kernel
theorem dX8_findGroups_110 : decode cX8_findGroups 110 = .ok (.return_, 1) := by decide +kernel
set_option maxRecDepth 20000 in
theorem ggX8_group_X8_isIn : GoodIn wsX8_group wsX8_isIn := goodIn_r _ [7] rfl (by decide +kernel)
set_option maxRecDepth 20000 in
theorem gX8_group_X8_isIn : GoodIn wsX8_group (va_wsS RX8 128 yX8_isIn wsX8_isIn) := goodIn_app (goodIn_of _ (by decide +kernel)) ggX8_group_X8_isIn
set_option maxRecDepth 20000 in
theorem ggX8_group_X8_no : GoodIn wsX8_group wsX8_no := goodIn_r _ [11, 12, 13, 14, 15, 16, 17, 18, 19, 20, 21, 22, 23, 24, 25, 26, 27, 28, 29, 30, 31, 32, 33, 34, 35, 36, 37, 38, 39, 40, 41, 42, 43, 44, 45, 46, 47, 48, 49, 50, 51, 52, 53, 54, 55, 56] rfl (by decide +kernel)
set_option maxRecDepth 20000 in
theorem gX8_group_X8_no : GoodIn wsX8_group (wsV RX8 122 RX8 yX8_no wsX8_no) := goodIn_app (goodIn_of _ (by decide +kernel)) ggX8_group_X8_no
theorem dX8_group_0 : decode cX8_group 0 = .ok (.iload_n 1, 1) := by decide +kernel
theorem dX8_group_1 : decode cX8_group 1 = .ok (.i2l, 1) := by decide +kernel
theorem dX8_group_2 : decode cX8_group 2 = .ok (.lconst 0, 1) := by decide +kernel
theorem dX8_group_3 : decode cX8_group 3 = .ok (.ldc2_w 232, 3) := by decide +kernel
theorem dX8_group_6 : decode cX8_group 6 = .ok (.invokestatic 128, 3) := by decide +kernel
theorem dX8_group_9 : decode cX8_group 9 = .ok (.ifCond .ne 10, 3) := by decide +kernel
theorem dX8_group_12 : decode cX8_group 12 = .ok (.aload_n 0, 1) := by decide +kernel
theorem dX8_group_13 : decode cX8_group 13 = .ok (.bipush (-3), 2) := by decide +kernel
theorem dX8_group_15 : decode cX8_group 15 = .ok (.invokevirtual 122, 3) := by decide +kernel
theorem dX8_group_18 : decode cX8_group 18 = .ok (.ireturn, 1) := by decide +kernel
theorem dX8_group_19 : decode cX8_group 19 = .ok (.aload_n 0, 1) := by decide +kernel
theorem dX8_group_20 : decode cX8_group 20 = .ok (.getfield 164, 3) := by decide +kernel
theorem dX8_group_23 : decode cX8_group 23 = .ok (.ifCond .eq 12, 3) := by decide +kernel
theorem dX8_group_35 : decode cX8_group 35 = .ok (.aload_n 0, 1) := by decide +kernel
theorem dX8_group_36 : decode cX8_group 36 = .ok (.bipush (-2), 2) := by decide +kernel
theorem dX8_group_38 : decode cX8_group 38 = .ok (.invokevirtual 122, 3) := by decide +kernel
theorem dX8_group_41 : decode cX8_group 41 = .ok (.ireturn, 1) := by decide +kernel
set_option maxRecDepth 20000 in
theorem ggX8_narrow_X8_no : GoodIn wsX8_narrow wsX8_no := goodIn_r _ [11, 12, 19, 20, 21, 22, 23, 24, 25, 26, 27, 28, 29, 30, 31, 32, 33, 34, 35, 36, 37, 38, 39, 40, 41, 42, 43, 44, 45, 46, 47, 48, 49, 50, 51, 52, 53, 54, 55, 56, 57, 58, 59, 60, 61, 62] rfl (by decide +kernel)
set_option maxRecDepth 20000 in
theorem gX8_narrow_X8_no : GoodIn wsX8_narrow (wsV RX8 122 RX8 yX8_no wsX8_no) := goodIn_app (goodIn_of _ (by decide +kernel)) ggX8_narrow_X8_no
theorem dX8_narrow_0 : decode cX8_narrow 0 = .ok (.aload_n 0, 1) := by decide +kernel
theorem dX8_narrow_1 : decode cX8_narrow 1 = .ok (.getfield 164, 3) := by decide +kernel
theorem dX8_narrow_4 : decode cX8_narrow 4 = .ok (.ifCond .ne 10, 3) := by decide +kernel
theorem dX8_narrow_7 : decode cX8_narrow 7 = .ok (.aload_n 0, 1) := by decide +kernel
theorem dX8_narrow_8 : decode cX8_narrow 8 = .ok (.bipush (-2), 2) := by decide +kernel
theorem dX8_narrow_10 : decode cX8_narrow 10 = .ok (.invokevirtual 122, 3) := by decide +kernel
theorem dX8_narrow_13 : decode cX8_narrow 13 = .ok (.ireturn, 1) := by decide +kernel
theorem dX8_copies_0 : decode cX8_copies 0 = .ok (.iconst 0, 1) := by decide +kernel
theorem dX8_copies_1 : decode cX8_copies 1 = .ok (.istore_n 2, 1) := by decide +kernel
theorem dX8_copies_2 : decode cX8_copies 2 = .ok (.iload_n 2, 1) := by decide +kernel
theorem dX8_copies_3 : decode cX8_copies 3 = .ok (.bipush 74, 2) := by decide +kernel
theorem dX8_copies_5 : decode cX8_copies 5 = .ok (.if_icmp .ge 15, 3) := by decide +kernel
theorem dX8_copies_8 : decode cX8_copies 8 = .ok (.aload_n 1, 1) := by decide +kernel
theorem dX8_copies_9 : decode cX8_copies 9 = .ok (.iload_n 2, 1) := by decide +kernel
theorem dX8_copies_10 : decode cX8_copies 10 = .ok (.aload_n 0, 1) := by decide +kernel
theorem dX8_copies_11 : decode cX8_copies 11 = .ok (.iload_n 2, 1) := by decide +kernel
theorem dX8_copies_12 : decode cX8_copies 12 = .ok (.laload, 1) := by decide +kernel
theorem dX8_copies_13 : decode cX8_copies 13 = .ok (.lastore, 1) := by decide +kernel
theorem dX8_copies_14 : decode cX8_copies 14 = .ok (.iinc 2 1, 3) := by decide +kernel
theorem dX8_copies_17 : decode cX8_copies 17 = .ok (.goto (-15), 3) := by decide +kernel
theorem dX8_copies_20 : decode cX8_copies 20 = .ok (.return_, 1) := by decide +kernel
set_option maxRecDepth 20000 in
theorem ggX8_plainly_X8_copies : GoodIn wsX8_plainly wsX8_copies := goodIn_r _ [12] rfl (by decide +kernel)
set_option maxRecDepth 20000 in
theorem gX8_plainly_X8_copies : GoodIn wsX8_plainly (va_wsS RX8 246 yX8_copies wsX8_copies) := goodIn_app (goodIn_of _ (by decide +kernel)) ggX8_plainly_X8_copies
theorem dX8_plainly_0 : decode cX8_plainly 0 = .ok (.aload_n 0, 1) := by decide +kernel
theorem dX8_plainly_1 : decode cX8_plainly 1 = .ok (.getfield 7, 3) := by decide +kernel
theorem dX8_plainly_4 : decode cX8_plainly 4 = .ok (.aload_n 0, 1) := by decide +kernel
theorem dX8_plainly_5 : decode cX8_plainly 5 = .ok (.getfield 19, 3) := by decide +kernel
theorem dX8_plainly_8 : decode cX8_plainly 8 = .ok (.invokestatic 246, 3) := by decide +kernel
theorem dX8_plainly_11 : decode cX8_plainly 11 = .ok (.aload_n 0, 1) := by decide +kernel
theorem dX8_plainly_12 : decode cX8_plainly 12 = .ok (.iconst 0, 1) := by decide +kernel
theorem dX8_plainly_13 : decode cX8_plainly 13 = .ok (.putfield 250, 3) := by decide +kernel
theorem dX8_plainly_16 : decode cX8_plainly 16 = .ok (.aload_n 0, 1) := by decide +kernel
theorem dX8_plainly_17 : decode cX8_plainly 17 = .ok (.iconst 0, 1) := by decide +kernel
theorem dX8_plainly_18 : decode cX8_plainly 18 = .ok (.putfield 253, 3) := by decide +kernel
theorem dX8_plainly_21 : decode cX8_plainly 21 = .ok (.aload_n 0, 1) := by decide +kernel
theorem dX8_plainly_22 : decode cX8_plainly 22 = .ok (.iconst (-1), 1) := by decide +kernel
theorem dX8_plainly_23 : decode cX8_plainly 23 = .ok (.putfield 100, 3) := by decide +kernel
theorem dX8_plainly_26 : decode cX8_plainly 26 = .ok (.iconst 0, 1) := by decide +kernel
theorem dX8_plainly_27 : decode cX8_plainly 27 = .ok (.istore_n 2, 1) := by decide +kernel
theorem dX8_plainly_28 : decode cX8_plainly 28 = .ok (.iload_n 2, 1) := by decide +kernel
theorem dX8_plainly_29 : decode cX8_plainly 29 = .ok (.aload_n 0, 1) := by decide +kernel
theorem dX8_plainly_30 : decode cX8_plainly 30 = .ok (.getfield 41, 3) := by decide +kernel
theorem dX8_plainly_33 : decode cX8_plainly 33 = .ok (.iload_n 1, 1) := by decide +kernel
theorem dX8_plainly_34 : decode cX8_plainly 34 = .ok (.iaload, 1) := by decide +kernel
theorem dX8_plainly_35 : decode cX8_plainly 35 = .ok (.if_icmp .ge 89, 3) := by decide +kernel
theorem dX8_plainly_124 : decode cX8_plainly 124 = .ok (.iconst 0, 1) := by decide +kernel
theorem dX8_plainly_125 : decode cX8_plainly 125 = .ok (.ireturn, 1) := by decide +kernel
set_option maxRecDepth 20000 in
theorem ggX8_byWords_X8_packs : GoodIn wsX8_byWords wsX8_packs := goodIn_r _ [15, 16, 8, 17, 18, 19, 9, 6, 20, 21, 22, 14, 23, 10, 24, 25, 26, 27, 28, 29, 30, 31, 32, 33, 34, 35, 36, 37, 38, 39, 40, 41, 42, 43, 44, 45, 46, 47, 48, 74, 75, 76, 77, 78, 79, 80, 81, 82, 83, 84, 85, 86, 87, 88, 89, 90, 91, 92, 93, 94, 95, 96, 97, 98, 99, 100, 101, 102, 103, 104, 105, 106, 107, 108, 109, 110, 111, 112, 113, 114, 115, 116, 117] rfl (by decide +kernel)
set_option maxRecDepth 20000 in
theorem gX8_byWords_X8_packs : GoodIn wsX8_byWords (wsV RX8 194 RX8 yX8_packs wsX8_packs) := goodIn_app (goodIn_of _ (by decide +kernel)) ggX8_byWords_X8_packs
set_option maxRecDepth 20000 in
theorem ggX8_byWords_X8_copies : GoodIn wsX8_byWords wsX8_copies := goodIn_r _ [51] rfl (by decide +kernel)
set_option maxRecDepth 20000 in
theorem gX8_byWords_X8_copies : GoodIn wsX8_byWords (va_wsS RX8 246 yX8_copies wsX8_copies) := goodIn_app (goodIn_of _ (by decide +kernel)) ggX8_byWords_X8_copies
theorem dX8_byWords_0 : decode cX8_byWords 0 = .ok (.aload_n 0, 1) := by decide +kernel
theorem dX8_byWords_1 : decode cX8_byWords 1 = .ok (.iload_n 1, 1) := by decide +kernel
theorem dX8_byWords_2 : decode cX8_byWords 2 = .ok (.invokevirtual 194, 3) := by decide +kernel
theorem dX8_byWords_5 : decode cX8_byWords 5 = .ok (.aload_n 0, 1) := by decide +kernel
theorem dX8_byWords_6 : decode cX8_byWords 6 = .ok (.getfield 7, 3) := by decide +kernel
theorem dX8_byWords_9 : decode cX8_byWords 9 = .ok (.aload_n 0, 1) := by decide +kernel
theorem dX8_byWords_10 : decode cX8_byWords 10 = .ok (.getfield 19, 3) := by decide +kernel
theorem dX8_byWords_13 : decode cX8_byWords 13 = .ok (.invokestatic 246, 3) := by decide +kernel
theorem dX8_byWords_16 : decode cX8_byWords 16 = .ok (.aload_n 0, 1) := by decide +kernel
theorem dX8_byWords_17 : decode cX8_byWords 17 = .ok (.iconst 0, 1) := by decide +kernel
theorem dX8_byWords_18 : decode cX8_byWords 18 = .ok (.putfield 250, 3) := by decide +kernel
theorem dX8_byWords_21 : decode cX8_byWords 21 = .ok (.aload_n 0, 1) := by decide +kernel
theorem dX8_byWords_22 : decode cX8_byWords 22 = .ok (.iconst 0, 1) := by decide +kernel
theorem dX8_byWords_23 : decode cX8_byWords 23 = .ok (.putfield 253, 3) := by decide +kernel
theorem dX8_byWords_26 : decode cX8_byWords 26 = .ok (.aload_n 0, 1) := by decide +kernel
theorem dX8_byWords_27 : decode cX8_byWords 27 = .ok (.iconst (-1), 1) := by decide +kernel
theorem dX8_byWords_28 : decode cX8_byWords 28 = .ok (.putfield 100, 3) := by decide +kernel
theorem dX8_byWords_31 : decode cX8_byWords 31 = .ok (.iconst 0, 1) := by decide +kernel
theorem dX8_byWords_32 : decode cX8_byWords 32 = .ok (.istore_n 2, 1) := by decide +kernel
theorem dX8_byWords_33 : decode cX8_byWords 33 = .ok (.iload_n 2, 1) := by decide +kernel
theorem dX8_byWords_34 : decode cX8_byWords 34 = .ok (.aload_n 0, 1) := by decide +kernel
theorem dX8_byWords_35 : decode cX8_byWords 35 = .ok (.getfield 57, 3) := by decide +kernel
theorem dX8_byWords_38 : decode cX8_byWords 38 = .ok (.iload_n 1, 1) := by decide +kernel
theorem dX8_byWords_39 : decode cX8_byWords 39 = .ok (.iaload, 1) := by decide +kernel
theorem dX8_byWords_40 : decode cX8_byWords 40 = .ok (.if_icmp .ge 159, 3) := by decide +kernel
theorem dX8_byWords_199 : decode cX8_byWords 199 = .ok (.iconst 0, 1) := by decide +kernel
theorem dX8_byWords_200 : decode cX8_byWords 200 = .ok (.ireturn, 1) := by decide +kernel
set_option maxRecDepth 20000 in
theorem ggX8_run_X8_isInstruction : GoodIn wsX8_run wsX8_isInstruction := goodIn_r _ [4] rfl (by decide +kernel)
set_option maxRecDepth 20000 in
theorem gX8_run_X8_isInstruction : GoodIn wsX8_run (va_wsS RX8 157 yX8_isInstruction wsX8_isInstruction) := goodIn_app (goodIn_of _ (by decide +kernel)) ggX8_run_X8_isInstruction
set_option maxRecDepth 20000 in
theorem ggX8_run_X8_no : GoodIn wsX8_run wsX8_no := goodIn_r _ [8, 9, 90, 91, 92, 93, 94, 95, 96, 97, 98, 99, 100, 101, 102, 103, 104, 105, 106, 107, 108, 109, 110, 111, 112, 113, 114, 115, 116, 117, 118, 119, 120, 121, 122, 123, 124, 125, 126, 127, 128, 129, 130, 131, 132, 133] rfl (by decide +kernel)
set_option maxRecDepth 20000 in
theorem gX8_run_X8_no : GoodIn wsX8_run (wsV RX8 122 RX8 yX8_no wsX8_no) := goodIn_app (goodIn_of _ (by decide +kernel)) ggX8_run_X8_no
set_option maxRecDepth 20000 in
theorem ggX8_run_X8_byWords : GoodIn wsX8_run wsX8_byWords := goodIn_r _ [13, 14, 15, 16, 17, 18, 19, 20, 21, 22, 23, 24, 25, 26, 3, 27, 28, 29, 30, 31, 32, 33, 34, 35, 36, 37, 38, 39, 40, 41, 42, 43, 44, 45, 46, 47, 48, 49, 50, 51, 52, 53, 54, 55, 56, 57, 58, 59, 60, 61, 62, 63, 64, 65, 66, 67, 68, 69, 70, 71, 72, 73, 74, 75, 76, 77, 78, 79, 80, 81, 82, 83, 84, 85, 90, 91, 92, 93, 94, 95, 96, 97, 98, 99, 100, 101, 102, 103, 104, 105, 106, 107, 108, 109, 110, 111, 112, 113, 114, 115, 116, 117, 118, 119, 120, 121, 122, 123, 124, 125, 126, 127, 128, 129, 130, 131, 132, 133] rfl (by decide +kernel)
set_option maxRecDepth 20000 in
theorem gX8_run_X8_byWords : GoodIn wsX8_run (wsV RX8 262 RX8 yX8_byWords wsX8_byWords) := goodIn_app (goodIn_of _ (by decide +kernel)) ggX8_run_X8_byWords
set_option maxRecDepth 20000 in
theorem ggX8_run_X8_plainly : GoodIn wsX8_run wsX8_plainly := goodIn_r _ [89, 14, 15, 16, 17, 18, 21, 20, 23, 61, 62, 3, 63, 64, 65, 66, 67, 48, 49, 68, 69, 70, 71, 72, 73, 74, 75, 76, 40, 77, 78, 79, 80, 81, 82, 83, 84, 85, 90, 91, 92, 93, 94, 95, 96, 97, 98, 99, 100, 101, 102, 103, 104, 105, 106, 107, 108, 109, 110, 111, 112, 113, 114, 115, 116, 117, 118, 119, 120, 121, 122, 123, 124, 125, 126, 127, 128, 129, 130, 131, 132, 133] rfl (by decide +kernel)
set_option maxRecDepth 20000 in
theorem gX8_run_X8_plainly : GoodIn wsX8_run (wsV RX8 265 RX8 yX8_plainly wsX8_plainly) := goodIn_app (goodIn_of _ (by decide +kernel)) ggX8_run_X8_plainly
theorem dX8_run_0 : decode cX8_run 0 = .ok (.iload_n 1, 1) := by decide +kernel
theorem dX8_run_1 : decode cX8_run 1 = .ok (.invokestatic 157, 3) := by decide +kernel
theorem dX8_run_4 : decode cX8_run 4 = .ok (.ifCond .ne 10, 3) := by decide +kernel
theorem dX8_run_7 : decode cX8_run 7 = .ok (.aload_n 0, 1) := by decide +kernel
theorem dX8_run_8 : decode cX8_run 8 = .ok (.bipush (-3), 2) := by decide +kernel
theorem dX8_run_10 : decode cX8_run 10 = .ok (.invokevirtual 122, 3) := by decide +kernel
theorem dX8_run_13 : decode cX8_run 13 = .ok (.ireturn, 1) := by decide +kernel
theorem dX8_run_14 : decode cX8_run 14 = .ok (.iload_n 2, 1) := by decide +kernel
theorem dX8_run_15 : decode cX8_run 15 = .ok (.ifCond .eq 11, 3) := by decide +kernel
theorem dX8_run_18 : decode cX8_run 18 = .ok (.aload_n 0, 1) := by decide +kernel
theorem dX8_run_19 : decode cX8_run 19 = .ok (.iload_n 1, 1) := by decide +kernel
theorem dX8_run_20 : decode cX8_run 20 = .ok (.invokevirtual 262, 3) := by decide +kernel
theorem dX8_run_23 : decode cX8_run 23 = .ok (.goto 8, 3) := by decide +kernel
theorem dX8_run_26 : decode cX8_run 26 = .ok (.aload_n 0, 1) := by decide +kernel
theorem dX8_run_27 : decode cX8_run 27 = .ok (.iload_n 1, 1) := by decide +kernel
theorem dX8_run_28 : decode cX8_run 28 = .ok (.invokevirtual 265, 3) := by decide +kernel
theorem dX8_run_31 : decode cX8_run 31 = .ok (.ireturn, 1) := by decide +kernel
set_option maxRecDepth 20000 in
theorem ggX8_told_X8_isIn : GoodIn wsX8_told wsX8_isIn := goodIn_r _ [8] rfl (by decide +kernel)
set_option maxRecDepth 20000 in
theorem gX8_told_X8_isIn : GoodIn wsX8_told (va_wsS RX8 128 yX8_isIn wsX8_isIn) := goodIn_app (goodIn_of _ (by decide +kernel)) ggX8_told_X8_isIn
set_option maxRecDepth 20000 in
theorem ggX8_told_X8_no : GoodIn wsX8_told wsX8_no := goodIn_r _ [12, 13, 14, 15, 16, 17, 18, 19, 20, 21, 22, 23, 24, 25, 26, 27, 28, 29, 30, 31, 32, 33, 34, 35, 36, 37, 38, 39, 40, 41, 42, 43, 44, 45, 46, 47, 48, 49, 50, 51, 52, 53, 54, 55, 56, 57] rfl (by decide +kernel)
set_option maxRecDepth 20000 in
theorem gX8_told_X8_no : GoodIn wsX8_told (wsV RX8 122 RX8 yX8_no wsX8_no) := goodIn_app (goodIn_of _ (by decide +kernel)) ggX8_told_X8_no
theorem dX8_told_0 : decode cX8_told 0 = .ok (.iload_n 1, 1) := by decide +kernel
theorem dX8_told_1 : decode cX8_told 1 = .ok (.i2l, 1) := by decide +kernel
theorem dX8_told_2 : decode cX8_told 2 = .ok (.lconst 0, 1) := by decide +kernel
theorem dX8_told_3 : decode cX8_told 3 = .ok (.ldc2_w 141, 3) := by decide +kernel
theorem dX8_told_6 : decode cX8_told 6 = .ok (.invokestatic 128, 3) := by decide +kernel
theorem dX8_told_9 : decode cX8_told 9 = .ok (.ifCond .ne 10, 3) := by decide +kernel
theorem dX8_told_12 : decode cX8_told 12 = .ok (.aload_n 0, 1) := by decide +kernel
theorem dX8_told_13 : decode cX8_told 13 = .ok (.bipush (-6), 2) := by decide +kernel
theorem dX8_told_15 : decode cX8_told 15 = .ok (.invokevirtual 122, 3) := by decide +kernel
theorem dX8_told_18 : decode cX8_told 18 = .ok (.ireturn, 1) := by decide +kernel
theorem dX8_told_19 : decode cX8_told 19 = .ok (.iload_n 1, 1) := by decide +kernel
theorem dX8_told_20 : decode cX8_told 20 = .ok (.ifCond .ne 10, 3) := by decide +kernel
theorem dX8_told_23 : decode cX8_told 23 = .ok (.aload_n 0, 1) := by decide +kernel
theorem dX8_told_24 : decode cX8_told 24 = .ok (.getfield 250, 3) := by decide +kernel
theorem dX8_told_27 : decode cX8_told 27 = .ok (.goto 19, 3) := by decide +kernel
theorem dX8_told_30 : decode cX8_told 30 = .ok (.iload_n 1, 1) := by decide +kernel
theorem dX8_told_31 : decode cX8_told 31 = .ok (.iconst 1, 1) := by decide +kernel
theorem dX8_told_32 : decode cX8_told 32 = .ok (.if_icmp .ne 10, 3) := by decide +kernel
theorem dX8_told_35 : decode cX8_told 35 = .ok (.aload_n 0, 1) := by decide +kernel
theorem dX8_told_36 : decode cX8_told 36 = .ok (.getfield 253, 3) := by decide +kernel
theorem dX8_told_39 : decode cX8_told 39 = .ok (.goto 7, 3) := by decide +kernel
theorem dX8_told_42 : decode cX8_told 42 = .ok (.aload_n 0, 1) := by decide +kernel
theorem dX8_told_43 : decode cX8_told 43 = .ok (.getfield 100, 3) := by decide +kernel
theorem dX8_told_46 : decode cX8_told 46 = .ok (.ireturn, 1) := by decide +kernel
set_option maxRecDepth 20000 in
theorem ggX8_beside_X8_isInstruction : GoodIn wsX8_beside wsX8_isInstruction := goodIn_r _ [10] rfl (by decide +kernel)
set_option maxRecDepth 20000 in
theorem gX8_beside_X8_isInstruction : GoodIn wsX8_beside (va_wsS RX8 157 yX8_isInstruction wsX8_isInstruction) := goodIn_app (goodIn_of _ (by decide +kernel)) ggX8_beside_X8_isInstruction
set_option maxRecDepth 20000 in
theorem ggX8_beside_X8_no : GoodIn wsX8_beside wsX8_no := goodIn_r _ [14, 15, 92, 93, 94, 95, 96, 97, 98, 99, 100, 101, 102, 103, 104, 105, 106, 107, 108, 109, 110, 111, 112, 113, 114, 115, 116, 117, 118, 119, 120, 121, 122, 123, 124, 125, 126, 127, 128, 129, 130, 131, 132, 133, 134, 135] rfl (by decide +kernel)
set_option maxRecDepth 20000 in
theorem gX8_beside_X8_no : GoodIn wsX8_beside (wsV RX8 122 RX8 yX8_no wsX8_no) := goodIn_app (goodIn_of _ (by decide +kernel)) ggX8_beside_X8_no
set_option maxRecDepth 20000 in
theorem ggX8_beside_X8_copies : GoodIn wsX8_beside wsX8_copies := goodIn_r _ [18] rfl (by decide +kernel)
set_option maxRecDepth 20000 in
theorem gX8_beside_X8_copies : GoodIn wsX8_beside (va_wsS RX8 246 yX8_copies wsX8_copies) := goodIn_app (goodIn_of _ (by decide +kernel)) ggX8_beside_X8_copies
set_option maxRecDepth 20000 in
theorem ggX8_beside_X8_plainly : GoodIn wsX8_beside wsX8_plainly := goodIn_r _ [22, 4, 23, 1, 2, 3, 24, 25, 26, 16, 17, 9, 18, 27, 28, 29, 30, 31, 32, 33, 34, 35, 36, 37, 38, 39, 40, 41, 42, 43, 44, 45, 46, 47, 48, 49, 50, 51, 92, 93, 94, 95, 96, 97, 98, 99, 100, 101, 102, 103, 104, 105, 106, 107, 108, 109, 110, 111, 112, 113, 114, 115, 116, 117, 118, 119, 120, 121, 122, 123, 124, 125, 126, 127, 128, 129, 130, 131, 132, 133, 134, 135] rfl (by decide +kernel)
set_option maxRecDepth 20000 in
theorem gX8_beside_X8_plainly : GoodIn wsX8_beside (wsV RX8 265 RX8 yX8_plainly wsX8_plainly) := goodIn_app (goodIn_of _ (by decide +kernel)) ggX8_beside_X8_plainly
set_option maxRecDepth 20000 in
theorem ggX8_beside_X8_byWords : GoodIn wsX8_beside wsX8_byWords := goodIn_r _ [55, 4, 23, 1, 2, 3, 56, 25, 24, 57, 26, 58, 59, 60, 9, 61, 62, 63, 64, 65, 66, 67, 68, 69, 70, 71, 72, 73, 42, 74, 75, 76, 77, 78, 79, 80, 31, 32, 81, 82, 83, 84, 85, 86, 87, 88, 89, 90, 91, 16, 17, 18, 27, 28, 29, 30, 33, 34, 35, 36, 37, 38, 39, 40, 41, 43, 44, 45, 46, 47, 48, 49, 50, 51, 92, 93, 94, 95, 96, 97, 98, 99, 100, 101, 102, 103, 104, 105, 106, 107, 108, 109, 110, 111, 112, 113, 114, 115, 116, 117, 118, 119, 120, 121, 122, 123, 124, 125, 126, 127, 128, 129, 130, 131, 132, 133, 134, 135] rfl (by decide +kernel)
set_option maxRecDepth 20000 in
theorem gX8_beside_X8_byWords : GoodIn wsX8_beside (wsV RX8 262 RX8 yX8_byWords wsX8_byWords) := goodIn_app (goodIn_of _ (by decide +kernel)) ggX8_beside_X8_byWords
theorem dX8_beside_0 : decode cX8_beside 0 = .ok (.iload_n 1, 1) := by decide +kernel
theorem dX8_beside_1 : decode cX8_beside 1 = .ok (.invokestatic 157, 3) := by decide +kernel
theorem dX8_beside_4 : decode cX8_beside 4 = .ok (.ifCond .ne 10, 3) := by decide +kernel
theorem dX8_beside_7 : decode cX8_beside 7 = .ok (.aload_n 0, 1) := by decide +kernel
theorem dX8_beside_8 : decode cX8_beside 8 = .ok (.bipush (-3), 2) := by decide +kernel
theorem dX8_beside_10 : decode cX8_beside 10 = .ok (.invokevirtual 122, 3) := by decide +kernel
theorem dX8_beside_13 : decode cX8_beside 13 = .ok (.ireturn, 1) := by decide +kernel
theorem dX8_beside_14 : decode cX8_beside 14 = .ok (.aload_n 0, 1) := by decide +kernel
theorem dX8_beside_15 : decode cX8_beside 15 = .ok (.getfield 250, 3) := by decide +kernel
theorem dX8_beside_18 : decode cX8_beside 18 = .ok (.istore_n 2, 1) := by decide +kernel
theorem dX8_beside_19 : decode cX8_beside 19 = .ok (.aload_n 0, 1) := by decide +kernel
theorem dX8_beside_20 : decode cX8_beside 20 = .ok (.getfield 253, 3) := by decide +kernel
theorem dX8_beside_23 : decode cX8_beside 23 = .ok (.istore_n 3, 1) := by decide +kernel
theorem dX8_beside_24 : decode cX8_beside 24 = .ok (.aload_n 0, 1) := by decide +kernel
theorem dX8_beside_25 : decode cX8_beside 25 = .ok (.getfield 100, 3) := by decide +kernel
theorem dX8_beside_28 : decode cX8_beside 28 = .ok (.istore 4, 2) := by decide +kernel
theorem dX8_beside_30 : decode cX8_beside 30 = .ok (.aload_n 0, 1) := by decide +kernel
theorem dX8_beside_31 : decode cX8_beside 31 = .ok (.getfield 7, 3) := by decide +kernel
theorem dX8_beside_34 : decode cX8_beside 34 = .ok (.aload_n 0, 1) := by decide +kernel
theorem dX8_beside_35 : decode cX8_beside 35 = .ok (.getfield 103, 3) := by decide +kernel
theorem dX8_beside_38 : decode cX8_beside 38 = .ok (.invokestatic 246, 3) := by decide +kernel
theorem dX8_beside_41 : decode cX8_beside 41 = .ok (.aload_n 0, 1) := by decide +kernel
theorem dX8_beside_42 : decode cX8_beside 42 = .ok (.iload_n 1, 1) := by decide +kernel
theorem dX8_beside_43 : decode cX8_beside 43 = .ok (.invokevirtual 265, 3) := by decide +kernel
theorem dX8_beside_46 : decode cX8_beside 46 = .ok (.istore 5, 2) := by decide +kernel
theorem dX8_beside_48 : decode cX8_beside 48 = .ok (.aload_n 0, 1) := by decide +kernel
theorem dX8_beside_49 : decode cX8_beside 49 = .ok (.getfield 7, 3) := by decide +kernel
theorem dX8_beside_52 : decode cX8_beside 52 = .ok (.aload_n 0, 1) := by decide +kernel
theorem dX8_beside_53 : decode cX8_beside 53 = .ok (.getfield 22, 3) := by decide +kernel
theorem dX8_beside_56 : decode cX8_beside 56 = .ok (.invokestatic 246, 3) := by decide +kernel
theorem dX8_beside_59 : decode cX8_beside 59 = .ok (.aload_n 0, 1) := by decide +kernel
theorem dX8_beside_60 : decode cX8_beside 60 = .ok (.getfield 103, 3) := by decide +kernel
theorem dX8_beside_63 : decode cX8_beside 63 = .ok (.aload_n 0, 1) := by decide +kernel
theorem dX8_beside_64 : decode cX8_beside 64 = .ok (.getfield 7, 3) := by decide +kernel
theorem dX8_beside_67 : decode cX8_beside 67 = .ok (.invokestatic 246, 3) := by decide +kernel
theorem dX8_beside_70 : decode cX8_beside 70 = .ok (.aload_n 0, 1) := by decide +kernel
theorem dX8_beside_71 : decode cX8_beside 71 = .ok (.iload_n 1, 1) := by decide +kernel
theorem dX8_beside_72 : decode cX8_beside 72 = .ok (.invokevirtual 262, 3) := by decide +kernel
theorem dX8_beside_75 : decode cX8_beside 75 = .ok (.iload 5, 2) := by decide +kernel
theorem dX8_beside_77 : decode cX8_beside 77 = .ok (.if_icmp .ne 7, 3) := by decide +kernel
theorem dX8_beside_80 : decode cX8_beside 80 = .ok (.iconst 1, 1) := by decide +kernel
theorem dX8_beside_81 : decode cX8_beside 81 = .ok (.goto 4, 3) := by decide +kernel
theorem dX8_beside_85 : decode cX8_beside 85 = .ok (.istore 6, 2) := by decide +kernel
theorem dX8_beside_87 : decode cX8_beside 87 = .ok (.iconst 0, 1) := by decide +kernel
theorem dX8_beside_88 : decode cX8_beside 88 = .ok (.istore 7, 2) := by decide +kernel
theorem dX8_beside_90 : decode cX8_beside 90 = .ok (.iload 7, 2) := by decide +kernel
theorem dX8_beside_92 : decode cX8_beside 92 = .ok (.bipush 74, 2) := by decide +kernel
theorem dX8_beside_94 : decode cX8_beside 94 = .ok (.if_icmp .ge 39, 3) := by decide +kernel
theorem dX8_beside_97 : decode cX8_beside 97 = .ok (.iload 6, 2) := by decide +kernel
theorem dX8_beside_99 : decode cX8_beside 99 = .ok (.ifCond .eq 25, 3) := by decide +kernel
theorem dX8_beside_102 : decode cX8_beside 102 = .ok (.aload_n 0, 1) := by decide +kernel
theorem dX8_beside_103 : decode cX8_beside 103 = .ok (.getfield 7, 3) := by decide +kernel
theorem dX8_beside_106 : decode cX8_beside 106 = .ok (.iload 7, 2) := by decide +kernel
theorem dX8_beside_108 : decode cX8_beside 108 = .ok (.laload, 1) := by decide +kernel
theorem dX8_beside_109 : decode cX8_beside 109 = .ok (.aload_n 0, 1) := by decide +kernel
theorem dX8_beside_110 : decode cX8_beside 110 = .ok (.getfield 22, 3) := by decide +kernel
theorem dX8_beside_113 : decode cX8_beside 113 = .ok (.iload 7, 2) := by decide +kernel
theorem dX8_beside_115 : decode cX8_beside 115 = .ok (.laload, 1) := by decide +kernel
theorem dX8_beside_116 : decode cX8_beside 116 = .ok (.lcmp, 1) := by decide +kernel
theorem dX8_beside_117 : decode cX8_beside 117 = .ok (.ifCond .ne 7, 3) := by decide +kernel
theorem dX8_beside_120 : decode cX8_beside 120 = .ok (.iconst 1, 1) := by decide +kernel
theorem dX8_beside_121 : decode cX8_beside 121 = .ok (.goto 4, 3) := by decide +kernel
theorem dX8_beside_125 : decode cX8_beside 125 = .ok (.istore 6, 2) := by decide +kernel
theorem dX8_beside_127 : decode cX8_beside 127 = .ok (.iinc 7 1, 3) := by decide +kernel
theorem dX8_beside_130 : decode cX8_beside 130 = .ok (.goto (-40), 3) := by decide +kernel
theorem dX8_beside_133 : decode cX8_beside 133 = .ok (.aload_n 0, 1) := by decide +kernel
theorem dX8_beside_134 : decode cX8_beside 134 = .ok (.getfield 103, 3) := by decide +kernel
theorem dX8_beside_137 : decode cX8_beside 137 = .ok (.aload_n 0, 1) := by decide +kernel
theorem dX8_beside_138 : decode cX8_beside 138 = .ok (.getfield 7, 3) := by decide +kernel
theorem dX8_beside_141 : decode cX8_beside 141 = .ok (.invokestatic 246, 3) := by decide +kernel
theorem dX8_beside_144 : decode cX8_beside 144 = .ok (.aload_n 0, 1) := by decide +kernel
theorem dX8_beside_145 : decode cX8_beside 145 = .ok (.iload_n 2, 1) := by decide +kernel
theorem dX8_beside_146 : decode cX8_beside 146 = .ok (.putfield 250, 3) := by decide +kernel
theorem dX8_beside_149 : decode cX8_beside 149 = .ok (.aload_n 0, 1) := by decide +kernel
theorem dX8_beside_150 : decode cX8_beside 150 = .ok (.iload_n 3, 1) := by decide +kernel
theorem dX8_beside_151 : decode cX8_beside 151 = .ok (.putfield 253, 3) := by decide +kernel
theorem dX8_beside_154 : decode cX8_beside 154 = .ok (.aload_n 0, 1) := by decide +kernel
theorem dX8_beside_155 : decode cX8_beside 155 = .ok (.iload 4, 2) := by decide +kernel
theorem dX8_beside_157 : decode cX8_beside 157 = .ok (.putfield 100, 3) := by decide +kernel
theorem dX8_beside_160 : decode cX8_beside 160 = .ok (.iload 6, 2) := by decide +kernel
theorem dX8_beside_162 : decode cX8_beside 162 = .ok (.ifCond .eq 7, 3) := by decide +kernel
theorem dX8_beside_165 : decode cX8_beside 165 = .ok (.iconst 0, 1) := by decide +kernel
theorem dX8_beside_166 : decode cX8_beside 166 = .ok (.goto 4, 3) := by decide +kernel
theorem dX8_beside_170 : decode cX8_beside 170 = .ok (.ireturn, 1) := by decide +kernel
set_option maxRecDepth 20000 in
theorem ggX8_code_X8_isIn : GoodIn wsX8_code wsX8_isIn := goodIn_r _ [6] rfl (by decide +kernel)
set_option maxRecDepth 20000 in
theorem gX8_code_X8_isIn : GoodIn wsX8_code (va_wsS RX8 128 yX8_isIn wsX8_isIn) := goodIn_app (goodIn_of _ (by decide +kernel)) ggX8_code_X8_isIn
set_option maxRecDepth 20000 in
theorem ggX8_code_X8_isInstruction : GoodIn wsX8_code wsX8_isInstruction := goodIn_r _ [9] rfl (by decide +kernel)
set_option maxRecDepth 20000 in
theorem gX8_code_X8_isInstruction : GoodIn wsX8_code (va_wsS RX8 157 yX8_isInstruction wsX8_isInstruction) := goodIn_app (goodIn_of _ (by decide +kernel)) ggX8_code_X8_isInstruction
set_option maxRecDepth 20000 in
theorem ggX8_code_X8_no : GoodIn wsX8_code wsX8_no := goodIn_r _ [13, 14, 15, 16, 17, 18, 19, 20, 21, 22, 23, 24, 25, 26, 27, 28, 29, 30, 31, 32, 33, 34, 35, 36, 37, 38, 39, 40, 41, 42, 43, 44, 45, 46, 47, 48, 49, 50, 51, 52, 53, 54, 55, 56, 57, 58] rfl (by decide +kernel)
set_option maxRecDepth 20000 in
theorem gX8_code_X8_no : GoodIn wsX8_code (wsV RX8 122 RX8 yX8_no wsX8_no) := goodIn_app (goodIn_of _ (by decide +kernel)) ggX8_code_X8_no
theorem dX8_code_0 : decode cX8_code 0 = .ok (.iload_n 1, 1) := by decide +kernel
theorem dX8_code_1 : decode cX8_code 1 = .ok (.i2l, 1) := by decide +kernel
theorem dX8_code_2 : decode cX8_code 2 = .ok (.lconst 0, 1) := by decide +kernel
theorem dX8_code_3 : decode cX8_code 3 = .ok (.ldc2_w 268, 3) := by decide +kernel
theorem dX8_code_6 : decode cX8_code 6 = .ok (.invokestatic 128, 3) := by decide +kernel
theorem dX8_code_9 : decode cX8_code 9 = .ok (.ifCond .eq 15, 3) := by decide +kernel
theorem dX8_code_12 : decode cX8_code 12 = .ok (.iload_n 2, 1) := by decide +kernel
theorem dX8_code_13 : decode cX8_code 13 = .ok (.iconst (-1), 1) := by decide +kernel
theorem dX8_code_14 : decode cX8_code 14 = .ok (.if_icmp .eq 17, 3) := by decide +kernel
theorem dX8_code_17 : decode cX8_code 17 = .ok (.iload_n 2, 1) := by decide +kernel
theorem dX8_code_18 : decode cX8_code 18 = .ok (.invokestatic 157, 3) := by decide +kernel
theorem dX8_code_21 : decode cX8_code 21 = .ok (.ifCond .ne 10, 3) := by decide +kernel
theorem dX8_code_24 : decode cX8_code 24 = .ok (.aload_n 0, 1) := by decide +kernel
theorem dX8_code_25 : decode cX8_code 25 = .ok (.bipush (-3), 2) := by decide +kernel
theorem dX8_code_27 : decode cX8_code 27 = .ok (.invokevirtual 122, 3) := by decide +kernel
theorem dX8_code_30 : decode cX8_code 30 = .ok (.ireturn, 1) := by decide +kernel
theorem dX8_code_31 : decode cX8_code 31 = .ok (.aload_n 0, 1) := by decide +kernel
theorem dX8_code_32 : decode cX8_code 32 = .ok (.getfield 106, 3) := by decide +kernel
theorem dX8_code_35 : decode cX8_code 35 = .ok (.iload_n 1, 1) := by decide +kernel
theorem dX8_code_36 : decode cX8_code 36 = .ok (.iaload, 1) := by decide +kernel
theorem dX8_code_37 : decode cX8_code 37 = .ok (.istore_n 3, 1) := by decide +kernel
theorem dX8_code_38 : decode cX8_code 38 = .ok (.aload_n 0, 1) := by decide +kernel
theorem dX8_code_39 : decode cX8_code 39 = .ok (.getfield 106, 3) := by decide +kernel
theorem dX8_code_42 : decode cX8_code 42 = .ok (.iload_n 1, 1) := by decide +kernel
theorem dX8_code_43 : decode cX8_code 43 = .ok (.iload_n 2, 1) := by decide +kernel
theorem dX8_code_44 : decode cX8_code 44 = .ok (.iastore, 1) := by decide +kernel
theorem dX8_code_45 : decode cX8_code 45 = .ok (.iload_n 3, 1) := by decide +kernel
theorem dX8_code_46 : decode cX8_code 46 = .ok (.ireturn, 1) := by decide +kernel
set_option maxRecDepth 20000 in
theorem ggX8_step_X8_no : GoodIn wsX8_step wsX8_no := goodIn_r _ [13, 14, 92, 93, 94, 95, 96, 97, 98, 99, 100, 101, 102, 103, 104, 105, 106, 107, 108, 109, 110, 111, 112, 113, 114, 115, 116, 117, 118, 119, 120, 121, 122, 123, 124, 125, 126, 127, 128, 129, 130, 131, 132, 133, 134, 135] rfl (by decide +kernel)
set_option maxRecDepth 20000 in
theorem gX8_step_X8_no : GoodIn wsX8_step (wsV RX8 122 RX8 yX8_no wsX8_no) := goodIn_app (goodIn_of _ (by decide +kernel)) ggX8_step_X8_no
set_option maxRecDepth 20000 in
theorem ggX8_step_X8_isIn : GoodIn wsX8_step wsX8_isIn := goodIn_r _ [17] rfl (by decide +kernel)
set_option maxRecDepth 20000 in
theorem gX8_step_X8_isIn : GoodIn wsX8_step (va_wsS RX8 128 yX8_isIn wsX8_isIn) := goodIn_app (goodIn_of _ (by decide +kernel)) ggX8_step_X8_isIn
theorem dX8_step_0 : decode cX8_step 0 = .ok (.iload_n 1, 1) := by decide +kernel
theorem dX8_step_1 : decode cX8_step 1 = .ok (.ifCond .ge 10, 3) := by decide +kernel
theorem dX8_step_4 : decode cX8_step 4 = .ok (.aload_n 0, 1) := by decide +kernel
theorem dX8_step_5 : decode cX8_step 5 = .ok (.bipush (-4), 2) := by decide +kernel
theorem dX8_step_7 : decode cX8_step 7 = .ok (.invokevirtual 122, 3) := by decide +kernel
theorem dX8_step_10 : decode cX8_step 10 = .ok (.ireturn, 1) := by decide +kernel
theorem dX8_step_11 : decode cX8_step 11 = .ok (.iload_n 1, 1) := by decide +kernel
theorem dX8_step_12 : decode cX8_step 12 = .ok (.i2l, 1) := by decide +kernel
theorem dX8_step_13 : decode cX8_step 13 = .ok (.lconst 1, 1) := by decide +kernel
theorem dX8_step_14 : decode cX8_step 14 = .ok (.ldc2_w 270, 3) := by decide +kernel
theorem dX8_step_17 : decode cX8_step 17 = .ok (.invokestatic 128, 3) := by decide +kernel
theorem dX8_step_20 : decode cX8_step 20 = .ok (.ifCond .ne 10, 3) := by decide +kernel
theorem dX8_step_23 : decode cX8_step 23 = .ok (.aload_n 0, 1) := by decide +kernel
theorem dX8_step_24 : decode cX8_step 24 = .ok (.bipush (-6), 2) := by decide +kernel
theorem dX8_step_26 : decode cX8_step 26 = .ok (.invokevirtual 122, 3) := by decide +kernel
theorem dX8_step_29 : decode cX8_step 29 = .ok (.ireturn, 1) := by decide +kernel
theorem dX8_step_30 : decode cX8_step 30 = .ok (.aload_n 0, 1) := by decide +kernel
theorem dX8_step_31 : decode cX8_step 31 = .ok (.iconst 0, 1) := by decide +kernel
theorem dX8_step_32 : decode cX8_step 32 = .ok (.putfield 272, 3) := by decide +kernel
theorem dX8_step_35 : decode cX8_step 35 = .ok (.iconst 0, 1) := by decide +kernel
theorem dX8_step_36 : decode cX8_step 36 = .ok (.istore_n 2, 1) := by decide +kernel
theorem dX8_step_37 : decode cX8_step 37 = .ok (.iload_n 2, 1) := by decide +kernel
theorem dX8_step_38 : decode cX8_step 38 = .ok (.iload_n 1, 1) := by decide +kernel
theorem dX8_step_39 : decode cX8_step 39 = .ok (.if_icmp .ge 129, 3) := by decide +kernel
theorem dX8_step_42 : decode cX8_step 42 = .ok (.aload_n 0, 1) := by decide +kernel
theorem dX8_step_43 : decode cX8_step 43 = .ok (.getfield 272, 3) := by decide +kernel
theorem dX8_step_46 : decode cX8_step 46 = .ok (.ifCond .ne 122, 3) := by decide +kernel
theorem dX8_step_49 : decode cX8_step 49 = .ok (.aload_n 0, 1) := by decide +kernel
theorem dX8_step_50 : decode cX8_step 50 = .ok (.getfield 7, 3) := by decide +kernel
theorem dX8_step_53 : decode cX8_step 53 = .ok (.bipush 7, 2) := by decide +kernel
theorem dX8_step_55 : decode cX8_step 55 = .ok (.laload, 1) := by decide +kernel
theorem dX8_step_56 : decode cX8_step 56 = .ok (.lstore_n 3, 1) := by decide +kernel
theorem dX8_step_57 : decode cX8_step 57 = .ok (.lload_n 3, 1) := by decide +kernel
theorem dX8_step_58 : decode cX8_step 58 = .ok (.ldc2_w 237, 3) := by decide +kernel
theorem dX8_step_61 : decode cX8_step 61 = .ok (.lcmp, 1) := by decide +kernel
theorem dX8_step_62 : decode cX8_step 62 = .ok (.ifCond .le 7, 3) := by decide +kernel
theorem dX8_step_69 : decode cX8_step 69 = .ok (.aload_n 0, 1) := by decide +kernel
theorem dX8_step_70 : decode cX8_step 70 = .ok (.getfield 106, 3) := by decide +kernel
theorem dX8_step_73 : decode cX8_step 73 = .ok (.aload_n 0, 1) := by decide +kernel
theorem dX8_step_74 : decode cX8_step 74 = .ok (.getfield 7, 3) := by decide +kernel
theorem dX8_step_77 : decode cX8_step 77 = .ok (.bipush 10, 2) := by decide +kernel
theorem dX8_step_79 : decode cX8_step 79 = .ok (.lload_n 3, 1) := by decide +kernel
theorem dX8_step_80 : decode cX8_step 80 = .ok (.l2i, 1) := by decide +kernel
theorem dX8_step_81 : decode cX8_step 81 = .ok (.iadd, 1) := by decide +kernel
theorem dX8_step_82 : decode cX8_step 82 = .ok (.laload, 1) := by decide +kernel
theorem dX8_step_83 : decode cX8_step 83 = .ok (.ldc2_w 275, 3) := by decide +kernel
theorem dX8_step_86 : decode cX8_step 86 = .ok (.lrem, 1) := by decide +kernel
theorem dX8_step_87 : decode cX8_step 87 = .ok (.l2i, 1) := by decide +kernel
theorem dX8_step_88 : decode cX8_step 88 = .ok (.iaload, 1) := by decide +kernel
theorem dX8_step_89 : decode cX8_step 89 = .ok (.istore 5, 2) := by decide +kernel
theorem dX8_step_91 : decode cX8_step 91 = .ok (.iload 5, 2) := by decide +kernel
theorem dX8_step_93 : decode cX8_step 93 = .ok (.ifCond .ge 23, 3) := by decide +kernel
theorem dX8_step_96 : decode cX8_step 96 = .ok (.aload_n 0, 1) := by decide +kernel
theorem dX8_step_97 : decode cX8_step 97 = .ok (.lload_n 3, 1) := by decide +kernel
theorem dX8_step_98 : decode cX8_step 98 = .ok (.ldc2_w 237, 3) := by decide +kernel
theorem dX8_step_101 : decode cX8_step 101 = .ok (.lcmp, 1) := by decide +kernel
theorem dX8_step_102 : decode cX8_step 102 = .ok (.ifCond .le 7, 3) := by decide +kernel
theorem dX8_step_109 : decode cX8_step 109 = .ok (.iconst 2, 1) := by decide +kernel
theorem dX8_step_110 : decode cX8_step 110 = .ok (.putfield 272, 3) := by decide +kernel
theorem dX8_step_113 : decode cX8_step 113 = .ok (.goto 52, 3) := by decide +kernel
theorem dX8_step_165 : decode cX8_step 165 = .ok (.goto (-128), 3) := by decide +kernel
theorem dX8_step_168 : decode cX8_step 168 = .ok (.iload_n 2, 1) := by decide +kernel
theorem dX8_step_169 : decode cX8_step 169 = .ok (.ireturn, 1) := by decide +kernel
set_option maxRecDepth 20000 in
theorem ggX8_count_X8_no : GoodIn wsX8_count wsX8_no := goodIn_r _ [8, 9, 10, 11, 12, 13, 14, 15, 16, 17, 18, 19, 20, 21, 22, 23, 24, 25, 26, 27, 28, 29, 30, 31, 32, 33, 34, 35, 36, 37, 38, 39, 40, 41, 42, 43, 44, 45, 46, 47, 48, 49, 50, 51, 52, 53] rfl (by decide +kernel)
set_option maxRecDepth 20000 in
theorem gX8_count_X8_no : GoodIn wsX8_count (wsV RX8 122 RX8 yX8_no wsX8_no) := goodIn_app (goodIn_of _ (by decide +kernel)) ggX8_count_X8_no
theorem dX8_count_0 : decode cX8_count 0 = .ok (.iload_n 1, 1) := by decide +kernel
theorem dX8_count_1 : decode cX8_count 1 = .ok (.tableswitch 42 0 2 #[27, 32, 37], 27) := by decide +kernel
theorem dX8_count_28 : decode cX8_count 28 = .ok (.aload_n 0, 1) := by decide +kernel
theorem dX8_count_29 : decode cX8_count 29 = .ok (.getfield 280, 3) := by decide +kernel
theorem dX8_count_32 : decode cX8_count 32 = .ok (.ireturn, 1) := by decide +kernel
theorem dX8_count_33 : decode cX8_count 33 = .ok (.aload_n 0, 1) := by decide +kernel
theorem dX8_count_34 : decode cX8_count 34 = .ok (.getfield 277, 3) := by decide +kernel
theorem dX8_count_37 : decode cX8_count 37 = .ok (.ireturn, 1) := by decide +kernel
theorem dX8_count_38 : decode cX8_count 38 = .ok (.aload_n 0, 1) := by decide +kernel
theorem dX8_count_39 : decode cX8_count 39 = .ok (.getfield 272, 3) := by decide +kernel
theorem dX8_count_42 : decode cX8_count 42 = .ok (.ireturn, 1) := by decide +kernel
theorem dX8_count_43 : decode cX8_count 43 = .ok (.aload_n 0, 1) := by decide +kernel
theorem dX8_count_44 : decode cX8_count 44 = .ok (.bipush (-6), 2) := by decide +kernel
theorem dX8_count_46 : decode cX8_count 46 = .ok (.invokevirtual 122, 3) := by decide +kernel
theorem dX8_count_49 : decode cX8_count 49 = .ok (.ireturn, 1) := by decide +kernel
set_option maxRecDepth 20000 in
theorem ggX8_image_X8_copies : GoodIn wsX8_image wsX8_copies := goodIn_r _ [7] rfl (by decide +kernel)
set_option maxRecDepth 20000 in
theorem gX8_image_X8_copies : GoodIn wsX8_image (va_wsS RX8 246 yX8_copies wsX8_copies) := goodIn_app (goodIn_of _ (by decide +kernel)) ggX8_image_X8_copies
theorem dX8_image_0 : decode cX8_image 0 = .ok (.aload_n 0, 1) := by decide +kernel
theorem dX8_image_1 : decode cX8_image 1 = .ok (.getfield 7, 3) := by decide +kernel
theorem dX8_image_4 : decode cX8_image 4 = .ok (.aload_n 0, 1) := by decide +kernel
theorem dX8_image_5 : decode cX8_image 5 = .ok (.getfield 13, 3) := by decide +kernel
theorem dX8_image_8 : decode cX8_image 8 = .ok (.invokestatic 246, 3) := by decide +kernel
theorem dX8_image_11 : decode cX8_image 11 = .ok (.aload_n 0, 1) := by decide +kernel
theorem dX8_image_12 : decode cX8_image 12 = .ok (.iconst 1, 1) := by decide +kernel
theorem dX8_image_13 : decode cX8_image 13 = .ok (.putfield 283, 3) := by decide +kernel
theorem dX8_image_16 : decode cX8_image 16 = .ok (.iconst 0, 1) := by decide +kernel
theorem dX8_image_17 : decode cX8_image 17 = .ok (.istore_n 1, 1) := by decide +kernel
theorem dX8_image_18 : decode cX8_image 18 = .ok (.iconst 0, 1) := by decide +kernel
theorem dX8_image_19 : decode cX8_image 19 = .ok (.istore_n 2, 1) := by decide +kernel
theorem dX8_image_20 : decode cX8_image 20 = .ok (.iload_n 2, 1) := by decide +kernel
theorem dX8_image_21 : decode cX8_image 21 = .ok (.bipush 74, 2) := by decide +kernel
theorem dX8_image_23 : decode cX8_image 23 = .ok (.if_icmp .ge 28, 3) := by decide +kernel
theorem dX8_image_26 : decode cX8_image 26 = .ok (.iload_n 1, 1) := by decide +kernel
theorem dX8_image_27 : decode cX8_image 27 = .ok (.aload_n 0, 1) := by decide +kernel
theorem dX8_image_28 : decode cX8_image 28 = .ok (.getfield 7, 3) := by decide +kernel
theorem dX8_image_31 : decode cX8_image 31 = .ok (.iload_n 2, 1) := by decide +kernel
theorem dX8_image_32 : decode cX8_image 32 = .ok (.laload, 1) := by decide +kernel
theorem dX8_image_33 : decode cX8_image 33 = .ok (.lconst 0, 1) := by decide +kernel
theorem dX8_image_34 : decode cX8_image 34 = .ok (.lcmp, 1) := by decide +kernel
theorem dX8_image_35 : decode cX8_image 35 = .ok (.ifCond .eq 7, 3) := by decide +kernel
theorem dX8_image_42 : decode cX8_image 42 = .ok (.iconst 0, 1) := by decide +kernel
theorem dX8_image_43 : decode cX8_image 43 = .ok (.iadd, 1) := by decide +kernel
theorem dX8_image_44 : decode cX8_image 44 = .ok (.istore_n 1, 1) := by decide +kernel
theorem dX8_image_45 : decode cX8_image 45 = .ok (.iinc 2 1, 3) := by decide +kernel
theorem dX8_image_48 : decode cX8_image 48 = .ok (.goto (-28), 3) := by decide +kernel
theorem dX8_image_51 : decode cX8_image 51 = .ok (.iload_n 1, 1) := by decide +kernel
theorem dX8_image_52 : decode cX8_image 52 = .ok (.ireturn, 1) := by decide +kernel
set_option maxRecDepth 20000 in
theorem ggX8_restore_X8_no : GoodIn wsX8_restore wsX8_no := goodIn_r _ [8, 9, 15, 16, 17, 18, 19, 20, 21, 22, 23, 24, 25, 26, 27, 28, 29, 30, 31, 32, 33, 34, 35, 36, 37, 38, 39, 40, 41, 42, 43, 44, 45, 46, 47, 48, 49, 50, 51, 52, 53, 54, 55, 56, 57, 58] rfl (by decide +kernel)
set_option maxRecDepth 20000 in
theorem gX8_restore_X8_no : GoodIn wsX8_restore (wsV RX8 122 RX8 yX8_no wsX8_no) := goodIn_app (goodIn_of _ (by decide +kernel)) ggX8_restore_X8_no
theorem dX8_restore_0 : decode cX8_restore 0 = .ok (.aload_n 0, 1) := by decide +kernel
theorem dX8_restore_1 : decode cX8_restore 1 = .ok (.getfield 283, 3) := by decide +kernel
theorem dX8_restore_4 : decode cX8_restore 4 = .ok (.ifCond .ne 10, 3) := by decide +kernel
theorem dX8_restore_7 : decode cX8_restore 7 = .ok (.aload_n 0, 1) := by decide +kernel
theorem dX8_restore_8 : decode cX8_restore 8 = .ok (.bipush (-2), 2) := by decide +kernel
theorem dX8_restore_10 : decode cX8_restore 10 = .ok (.invokevirtual 122, 3) := by decide +kernel
theorem dX8_restore_13 : decode cX8_restore 13 = .ok (.ireturn, 1) := by decide +kernel
set_option maxRecDepth 20000 in
theorem ggX8_lay_X8_no : GoodIn wsX8_lay wsX8_no := goodIn_r _ [11, 12, 13, 14, 15, 16, 17, 18, 19, 20, 21, 22, 23, 24, 25, 26, 27, 28, 29, 30, 31, 32, 33, 34, 35, 36, 37, 38, 39, 40, 41, 42, 43, 44, 45, 46, 47, 48, 49, 50, 51, 52, 53, 54, 55, 56] rfl (by decide +kernel)
set_option maxRecDepth 20000 in
theorem gX8_lay_X8_no : GoodIn wsX8_lay (wsV RX8 122 RX8 yX8_no wsX8_no) := goodIn_app (goodIn_of _ (by decide +kernel)) ggX8_lay_X8_no
theorem dX8_lay_0 : decode cX8_lay 0 = .ok (.iload_n 2, 1) := by decide +kernel
theorem dX8_lay_1 : decode cX8_lay 1 = .ok (.ifCond .ge 10, 3) := by decide +kernel
theorem dX8_lay_4 : decode cX8_lay 4 = .ok (.aload_n 0, 1) := by decide +kernel
theorem dX8_lay_5 : decode cX8_lay 5 = .ok (.bipush (-4), 2) := by decide +kernel
theorem dX8_lay_7 : decode cX8_lay 7 = .ok (.invokevirtual 122, 3) := by decide +kernel
theorem dX8_lay_10 : decode cX8_lay 10 = .ok (.ireturn, 1) := by decide +kernel
theorem dX8_lay_11 : decode cX8_lay 11 = .ok (.iload_n 1, 1) := by decide +kernel
theorem dX8_lay_12 : decode cX8_lay 12 = .ok (.ifCond .lt 15, 3) := by decide +kernel
theorem dX8_lay_15 : decode cX8_lay 15 = .ok (.iload_n 1, 1) := by decide +kernel
theorem dX8_lay_16 : decode cX8_lay 16 = .ok (.i2l, 1) := by decide +kernel
theorem dX8_lay_17 : decode cX8_lay 17 = .ok (.iload_n 2, 1) := by decide +kernel
theorem dX8_lay_18 : decode cX8_lay 18 = .ok (.i2l, 1) := by decide +kernel
theorem dX8_lay_19 : decode cX8_lay 19 = .ok (.ladd, 1) := by decide +kernel
theorem dX8_lay_20 : decode cX8_lay 20 = .ok (.ldc2_w 286, 3) := by decide +kernel
theorem dX8_lay_23 : decode cX8_lay 23 = .ok (.lcmp, 1) := by decide +kernel
theorem dX8_lay_24 : decode cX8_lay 24 = .ok (.ifCond .le 10, 3) := by decide +kernel
theorem dX8_lay_27 : decode cX8_lay 27 = .ok (.aload_n 0, 1) := by decide +kernel
theorem dX8_lay_28 : decode cX8_lay 28 = .ok (.bipush (-3), 2) := by decide +kernel
theorem dX8_lay_30 : decode cX8_lay 30 = .ok (.invokevirtual 122, 3) := by decide +kernel
theorem dX8_lay_33 : decode cX8_lay 33 = .ok (.ireturn, 1) := by decide +kernel
theorem dX8_lay_34 : decode cX8_lay 34 = .ok (.aload_n 0, 1) := by decide +kernel
theorem dX8_lay_35 : decode cX8_lay 35 = .ok (.iload_n 2, 1) := by decide +kernel
theorem dX8_lay_36 : decode cX8_lay 36 = .ok (.putfield 115, 3) := by decide +kernel
theorem dX8_lay_39 : decode cX8_lay 39 = .ok (.iconst 0, 1) := by decide +kernel
theorem dX8_lay_40 : decode cX8_lay 40 = .ok (.istore_n 3, 1) := by decide +kernel
theorem dX8_lay_41 : decode cX8_lay 41 = .ok (.iload_n 3, 1) := by decide +kernel
theorem dX8_lay_42 : decode cX8_lay 42 = .ok (.iload_n 2, 1) := by decide +kernel
theorem dX8_lay_43 : decode cX8_lay 43 = .ok (.if_icmp .ge 52, 3) := by decide +kernel
theorem dX8_lay_46 : decode cX8_lay 46 = .ok (.aload_n 0, 1) := by decide +kernel
theorem dX8_lay_47 : decode cX8_lay 47 = .ok (.getfield 7, 3) := by decide +kernel
theorem dX8_lay_50 : decode cX8_lay 50 = .ok (.bipush 10, 2) := by decide +kernel
theorem dX8_lay_52 : decode cX8_lay 52 = .ok (.iload_n 1, 1) := by decide +kernel
theorem dX8_lay_53 : decode cX8_lay 53 = .ok (.iadd, 1) := by decide +kernel
theorem dX8_lay_54 : decode cX8_lay 54 = .ok (.iload_n 3, 1) := by decide +kernel
theorem dX8_lay_55 : decode cX8_lay 55 = .ok (.iadd, 1) := by decide +kernel
theorem dX8_lay_56 : decode cX8_lay 56 = .ok (.laload, 1) := by decide +kernel
theorem dX8_lay_57 : decode cX8_lay 57 = .ok (.ldc2_w 288, 3) := by decide +kernel
theorem dX8_lay_60 : decode cX8_lay 60 = .ok (.land, 1) := by decide +kernel
theorem dX8_lay_61 : decode cX8_lay 61 = .ok (.l2i, 1) := by decide +kernel
theorem dX8_lay_62 : decode cX8_lay 62 = .ok (.istore 4, 2) := by decide +kernel
theorem dX8_lay_64 : decode cX8_lay 64 = .ok (.aload_n 0, 1) := by decide +kernel
theorem dX8_lay_65 : decode cX8_lay 65 = .ok (.getfield 109, 3) := by decide +kernel
theorem dX8_lay_68 : decode cX8_lay 68 = .ok (.iload_n 3, 1) := by decide +kernel
theorem dX8_lay_69 : decode cX8_lay 69 = .ok (.iload 4, 2) := by decide +kernel
theorem dX8_lay_71 : decode cX8_lay 71 = .ok (.sipush 32767, 3) := by decide +kernel
theorem dX8_lay_74 : decode cX8_lay 74 = .ok (.if_icmp .le 12, 3) := by decide +kernel
theorem dX8_lay_86 : decode cX8_lay 86 = .ok (.iload 4, 2) := by decide +kernel
theorem dX8_lay_88 : decode cX8_lay 88 = .ok (.iastore, 1) := by decide +kernel
theorem dX8_lay_89 : decode cX8_lay 89 = .ok (.iinc 3 1, 3) := by decide +kernel
theorem dX8_lay_92 : decode cX8_lay 92 = .ok (.goto (-51), 3) := by decide +kernel
theorem dX8_lay_95 : decode cX8_lay 95 = .ok (.iload_n 2, 1) := by decide +kernel
theorem dX8_lay_96 : decode cX8_lay 96 = .ok (.ireturn, 1) := by decide +kernel
theorem dX8_tear_0 : decode cX8_tear 0 = .ok (.aload_n 0, 1) := by decide +kernel
theorem dX8_tear_1 : decode cX8_tear 1 = .ok (.getfield 115, 3) := by decide +kernel
theorem dX8_tear_4 : decode cX8_tear 4 = .ok (.ifCond .lt 7, 3) := by decide +kernel
theorem dX8_tear_11 : decode cX8_tear 11 = .ok (.iconst 0, 1) := by decide +kernel
theorem dX8_tear_12 : decode cX8_tear 12 = .ok (.istore_n 1, 1) := by decide +kernel
theorem dX8_tear_13 : decode cX8_tear 13 = .ok (.aload_n 0, 1) := by decide +kernel
theorem dX8_tear_14 : decode cX8_tear 14 = .ok (.iconst (-1), 1) := by decide +kernel
theorem dX8_tear_15 : decode cX8_tear 15 = .ok (.putfield 115, 3) := by decide +kernel
theorem dX8_tear_18 : decode cX8_tear 18 = .ok (.iload_n 1, 1) := by decide +kernel
theorem dX8_tear_19 : decode cX8_tear 19 = .ok (.ireturn, 1) := by decide +kernel
set_option maxRecDepth 20000 in
theorem ggX8_row_X8_no : GoodIn wsX8_row wsX8_no := goodIn_r _ [7, 8, 12, 13, 14, 15, 16, 17, 18, 19, 20, 21, 22, 23, 24, 25, 26, 27, 28, 29, 30, 31, 32, 33, 34, 35, 36, 37, 38, 39, 40, 41, 42, 43, 44, 45, 46, 47, 48, 49, 50, 51, 52, 53, 54, 55] rfl (by decide +kernel)
set_option maxRecDepth 20000 in
theorem gX8_row_X8_no : GoodIn wsX8_row (wsV RX8 122 RX8 yX8_no wsX8_no) := goodIn_app (goodIn_of _ (by decide +kernel)) ggX8_row_X8_no
theorem dX8_row_0 : decode cX8_row 0 = .ok (.aload_n 0, 1) := by decide +kernel
theorem dX8_row_1 : decode cX8_row 1 = .ok (.getfield 115, 3) := by decide +kernel
theorem dX8_row_4 : decode cX8_row 4 = .ok (.ifCond .ge 10, 3) := by decide +kernel
theorem dX8_row_7 : decode cX8_row 7 = .ok (.aload_n 0, 1) := by decide +kernel
theorem dX8_row_8 : decode cX8_row 8 = .ok (.bipush (-2), 2) := by decide +kernel
theorem dX8_row_10 : decode cX8_row 10 = .ok (.invokevirtual 122, 3) := by decide +kernel
theorem dX8_row_13 : decode cX8_row 13 = .ok (.ireturn, 1) := by decide +kernel
set_option maxRecDepth 20000 in
theorem ggX8_copy_X8_no : GoodIn wsX8_copy wsX8_no := goodIn_r _ [8, 9, 10, 11, 12, 13, 14, 15, 16, 17, 18, 19, 20, 21, 22, 23, 24, 25, 26, 27, 28, 29, 30, 31, 32, 33, 34, 35, 36, 37, 38, 39, 40, 41, 42, 43, 44, 45, 46, 47, 48, 49, 50, 51, 52, 53] rfl (by decide +kernel)
set_option maxRecDepth 20000 in
theorem gX8_copy_X8_no : GoodIn wsX8_copy (wsV RX8 122 RX8 yX8_no wsX8_no) := goodIn_app (goodIn_of _ (by decide +kernel)) ggX8_copy_X8_no
theorem dX8_copy_0 : decode cX8_copy 0 = .ok (.aload_n 0, 1) := by decide +kernel
theorem dX8_copy_1 : decode cX8_copy 1 = .ok (.getfield 115, 3) := by decide +kernel
theorem dX8_copy_4 : decode cX8_copy 4 = .ok (.ifCond .ge 10, 3) := by decide +kernel
theorem dX8_copy_7 : decode cX8_copy 7 = .ok (.aload_n 0, 1) := by decide +kernel
theorem dX8_copy_8 : decode cX8_copy 8 = .ok (.bipush (-2), 2) := by decide +kernel
theorem dX8_copy_10 : decode cX8_copy 10 = .ok (.invokevirtual 122, 3) := by decide +kernel
theorem dX8_copy_13 : decode cX8_copy 13 = .ok (.ireturn, 1) := by decide +kernel
set_option maxRecDepth 20000 in
theorem ggX8_status_X8_isIn : GoodIn wsX8_status wsX8_isIn := goodIn_r _ [7] rfl (by decide +kernel)
set_option maxRecDepth 20000 in
theorem gX8_status_X8_isIn : GoodIn wsX8_status (va_wsS RX8 128 yX8_isIn wsX8_isIn) := goodIn_app (goodIn_of _ (by decide +kernel)) ggX8_status_X8_isIn
set_option maxRecDepth 20000 in
theorem ggX8_status_X8_no : GoodIn wsX8_status wsX8_no := goodIn_r _ [11, 3, 12, 13, 14, 15, 16, 17, 18, 19, 20, 21, 22, 23, 24, 25, 26, 27, 28, 29, 30, 31, 32, 33, 34, 35, 36, 37, 38, 39, 40, 41, 42, 43, 44, 45, 46, 47, 48, 49, 50, 51, 52, 53, 54, 55] rfl (by decide +kernel)
set_option maxRecDepth 20000 in
theorem gX8_status_X8_no : GoodIn wsX8_status (wsV RX8 122 RX8 yX8_no wsX8_no) := goodIn_app (goodIn_of _ (by decide +kernel)) ggX8_status_X8_no
theorem dX8_status_0 : decode cX8_status 0 = .ok (.iload_n 1, 1) := by decide +kernel
theorem dX8_status_1 : decode cX8_status 1 = .ok (.i2l, 1) := by decide +kernel
theorem dX8_status_2 : decode cX8_status 2 = .ok (.ldc2_w 291, 3) := by decide +kernel
theorem dX8_status_5 : decode cX8_status 5 = .ok (.ldc2_w 293, 3) := by decide +kernel
theorem dX8_status_8 : decode cX8_status 8 = .ok (.invokestatic 128, 3) := by decide +kernel
theorem dX8_status_11 : decode cX8_status 11 = .ok (.ifCond .eq 13, 3) := by decide +kernel
theorem dX8_status_14 : decode cX8_status 14 = .ok (.aload_n 0, 1) := by decide +kernel
theorem dX8_status_15 : decode cX8_status 15 = .ok (.getfield 48, 3) := by decide +kernel
theorem dX8_status_18 : decode cX8_status 18 = .ok (.iload_n 1, 1) := by decide +kernel
theorem dX8_status_19 : decode cX8_status 19 = .ok (.ineg, 1) := by decide +kernel
theorem dX8_status_20 : decode cX8_status 20 = .ok (.iaload, 1) := by decide +kernel
theorem dX8_status_21 : decode cX8_status 21 = .ok (.goto 9, 3) := by decide +kernel
theorem dX8_status_24 : decode cX8_status 24 = .ok (.aload_n 0, 1) := by decide +kernel
theorem dX8_status_25 : decode cX8_status 25 = .ok (.bipush (-6), 2) := by decide +kernel
theorem dX8_status_27 : decode cX8_status 27 = .ok (.invokevirtual 122, 3) := by decide +kernel
theorem dX8_status_30 : decode cX8_status 30 = .ok (.ireturn, 1) := by decide +kernel
end
section
-- classes whose objects the worlds hold (printed row, set early), and the bundled rows of the walk
abbrev vwCl : List vw_C := [(RX0, TX0, 10), (RX1, TX1, 12), (RX2, TX2, 5), (RX3, TX3, 7), (RX4, TX4, 9), (RX5, TX5, 7), (RX6, TX6, 10), (RX7, TX7, 16), (RX8, TX8, 44)]
/-- a state of the walk: tables, cells, apart, what changed since the method's start, new cells are ours -/
def KS (D : va_G) (A : Nat → Prop) (ws : va_W) (tys : List (ClassId × FieldType)) (s : State) (H : Heap) (locs : List Loc) : Prop := va_K D vwCl tys s ∧ va_P D vwCl ws H ∧ va_D A ws ∧ va_S A s.heap H locs ∧ ∀ q : Nat, s.heap.size ≤ q → A q
/-- a method's start: its cells, and whatever else (X) it wants of the state -/
def KPre (D : va_G) (wc : va_W) (tc : List (ClassId × FieldType)) (sz : Nat) (X : State → Prop) : State → Prop := fun U => U.heap.size = sz ∧ va_P D vwCl wc U.heap ∧ va_K D vwCl tc U ∧ va_D (fun _ => True) wc ∧ X U
/-- a method's end: its cells -/
def KPost {S : Type} (D : va_G) (A : Nat → Prop) (w1 : S → va_W) : S → State → Prop := fun u t => va_P D vwCl (w1 u) t.heap ∧ va_D A (w1 u)
/-- a constructor's end: its cells, and the array classes that it met -/
def KPostK {S : Type} (D : va_G) (A : Nat → Prop) (w1 : S → va_W) (t1 : S → List (ClassId × FieldType)) : S → State → Prop := fun u t => va_P D vwCl (w1 u) t.heap ∧ va_D A (w1 u) ∧ va_K D vwCl (t1 u) t
/-- what a precondition may say beside the cells: it doesn't see frames, and a warmer machine keeps it -/
def KX (X : State → Prop) : Prop := (∀ (a : Array Value) (U : State) (g : JFrame) (mk : MethodId), X U → X (U.calling g mk a))
theorem KX_true : KX (fun _ => True) := fun _ _ _ _ h => h
theorem KPre.blind {D : va_G} {wc : va_W} {tc : List (ClassId × FieldType)} {sz : Nat} {X : State → Prop} {av : List Value} (hX : KX X) : FrameBlind (va_Pc av (KPre D wc tc sz X)) := by
  intro a U g mk q
  obtain ⟨q0, q1, qP, qK, qD, qX⟩ := q
  exact ⟨q0, q1, qP, va_K.moved (u := U) (U := U.calling g mk a) (Vm.Alike.refl U.vm) qK, qD, hX a U g mk qX⟩
section KB
variable {p : Program} {l : Launch} {e : Env} {R : Room} {s : State} {m : MethodId} {args : Array Value} {below : List Frame} {meth : Method} {c : Code} {H : Heap} {locs : List Loc} {cells slots : Nat} {Q : State → Prop} {cc : ByteArray} {nL : Nat} {Ts : List Cond} {own : String} {A : Nat → Prop} {D : va_G} {ws : va_W} {tys : List (ClassId × FieldType)} {pc a : Nat} {ls : Array Slot} {rest : List Value}
theorem kPreS {wc : va_W} {tc : List (ClassId × FieldType)} {av : List Value} {X : State → Prop} (h : KS D A ws tys s H locs) (hXb : KX X) (hX : ∀ U : State, U.heap = H → s.WarmedH U.vm → X U) (isC isK : List Nat) (hn : va_nd isC = true) (hC : isC.map (fun i => ws[i]?) = wc.map some) (hT : isK.filterMap (fun i => tys[i]?) = tc) : PreS s H (va_Pc av (KPre D wc tc H.size X)) av := by
  refine ⟨KPre.blind hXb, fun U hU hW => ?_⟩
  have hPc : va_P D vwCl wc H := h.2.1.sub isC (by
    have h1 : isC.filterMap (fun i => ws[i]?) = (isC.map (fun i => ws[i]?)).filterMap id := by rw [List.filterMap_map]; rfl
    rw [h1, hC]
    simp [List.filterMap_map])
  have hDc : va_D A wc := h.2.2.1.sub isC hn hC
  exact ⟨rfl, by rw [hU], by rw [hU]; exact hPc, va_K.moved hW.alike (h.1.sub isK hT), hDc.weaken (fun _ _ _ _ => trivial), hX U hU hW⟩
theorem kPreV {wc : va_W} {tc : List (ClassId × FieldType)} {As : List Value} {X : State → Prop} {b q0 ci : Nat} {q : vw_C} {fs : List Value} (h : KS D A ws tys s H locs) (hXb : KX X) (hX : ∀ U : State, U.heap = H → s.WarmedH U.vm → X U) (isC isK : List Nat) (hn : va_nd isC = true) (hC : isC.map (fun i => ws[i]?) = wc.map some) (hT : isK.filterMap (fun i => tys[i]?) = tc) (hc : vwCl[ci]? = some q) (he : ws[q0]? = some (b, .inr (ci, fs))) : PreV s H q.1 b (va_Pc (.ref b :: As) (KPre D wc tc H.size X)) As :=
  ⟨KPre.blind hXb, va_recv h.1 h.2.1 hc he, (kPreS h hXb hX isC isK hn hC hT).2⟩
theorem k_get (E : CallFix p m c cc nL s args Ts own) (h : KS D A ws tys s H locs) {C : String} {T : u_T} {N ci index : Nat} (hin : ∀ w ∈ u_ws C T N, w ∈ Ts) (q0 : Nat) {fs : List Value} (he : ws[q0]? = some (a, .inr (ci, fs))) (hc : vwCl[ci]? = some (C, T, N)) (k : Nat) (hk : k < N) (hw : Cond.fieldLink own index (T k).1 (T k).2.1 (T k).2.2.1 ∈ Ts) {v : Value} (hv : fs[k]? = some v) (hdg : decode cc pc = .ok (.getfield index, 3))
    (kk : W p l e R s m args below meth c H locs cells slots Q (F0 m (pc + 3) ls (v :: rest))) : W p l e R s m args below meth c H locs cells slots Q (F0 m pc ls (.ref a :: rest)) :=
  va_get E.1 E.2.1 E.2.2.2.2 hin E.2.2.2.1 h.1 h.2.1 q0 he hc k hk (E.2.2.2.2 _ hw) (fun _ h9 => h9) hv hdg kk
theorem k_put (E : CallFix p m c cc nL s args Ts own) (h : KS D A ws tys s H locs) {C : String} {T : u_T} {N ci index : Nat} (hin : ∀ w ∈ u_ws C T N, w ∈ Ts) {ty0 : Nat → FieldType} (hty : ∀ k, k < N → parseFieldDescriptor (T k).2.2.1 = some (ty0 k)) (hnm : ∀ a, a < N → ∀ b, b < N → a ≠ b → (T a).2.1 ≠ (T b).2.1) (q0 : Nat) {fs : List Value} (he : ws[q0]? = some (a, .inr (ci, fs))) (hc : vwCl[ci]? = some (C, T, N)) (k : Nat) (hk : k < N) (hw : Cond.fieldLink own index (T k).1 (T k).2.1 (T k).2.2.1 ∈ Ts) (hfin : (T k).2.2.2 = false) {ty : FieldType} {v : Value} (hd : parseFieldDescriptor (T k).2.2.1 = some ty) (hn : narrow ty v = v) (hfit : fits ty v = true) (hl : k < fs.length) {ws' : va_W} (hs : ws.set q0 (a, .inr (ci, fs.set k v)) = ws')
    (hdg : decode cc pc = .ok (.putfield index, 3)) (kk : ∀ (H1 : Heap) (locs1 : List Loc), KS D A ws' tys s H1 locs1 → W p l e R s m args below meth c H1 locs1 cells slots Q (F0 m (pc + 3) ls rest)) : W p l e R s m args below meth c H locs cells slots Q (F0 m pc ls (v :: .ref a :: rest)) := by
  subst hs
  exact va_put E.1 E.2.1 E.2.2.2.2 hin ty0 hty hnm E.2.2.2.1 h.1 h.2.1 h.2.2.1 h.2.2.2.1 q0 he hc k hk (E.2.2.2.2 _ hw) (fun _ h9 => h9) hfin hd hn hfit hl hdg (fun H1 locs1 hP hD hS => kk H1 locs1 ⟨h.1, hP, hD, hS, h.2.2.2.2⟩)
theorem k_putF (E : CallFix p m c cc nL s args Ts own) (h : KS D A ws tys s H locs) {C : String} {T : u_T} {N ci index : Nat} (hin : ∀ w ∈ u_ws C T N, w ∈ Ts) {ty0 : Nat → FieldType} (hty : ∀ k, k < N → parseFieldDescriptor (T k).2.2.1 = some (ty0 k)) (hnm : ∀ a, a < N → ∀ b, b < N → a ≠ b → (T a).2.1 ≠ (T b).2.1) (q0 : Nat) {fs : List Value} (he : ws[q0]? = some (a, .inr (ci, fs))) (hc : vwCl[ci]? = some (C, T, N)) (k : Nat) (hk : k < N) (hw : Cond.fieldLink own index (T k).1 (T k).2.1 (T k).2.2.1 ∈ Ts) (hfin : (T k).2.2.2 = true) (hin2 : meth.name = "<init>") (hdecl : (T k).1 = own) {ty : FieldType} {v : Value} (hd : parseFieldDescriptor (T k).2.2.1 = some ty) (hn : narrow ty v = v) (hfit : fits ty v = true) (hl : k < fs.length) {ws' : va_W} (hs : ws.set q0 (a, .inr (ci, fs.set k v)) = ws')
    (hdg : decode cc pc = .ok (.putfield index, 3)) (kk : ∀ (H1 : Heap) (locs1 : List Loc), KS D A ws' tys s H1 locs1 → W p l e R s m args below meth c H1 locs1 cells slots Q (F0 m (pc + 3) ls rest)) : W p l e R s m args below meth c H locs cells slots Q (F0 m pc ls (v :: .ref a :: rest)) := by
  subst hs
  exact va_putF E.1 E.2.1 E.2.2.2.2 hin ty0 hty hnm E.2.2.2.1 h.1 h.2.1 h.2.2.1 h.2.2.2.1 q0 he hc k hk (E.2.2.2.2 _ hw) (fun _ h9 => h9) hfin hin2 hdecl hd hn hfit hl hdg (fun H1 locs1 hP hD hS => kk H1 locs1 ⟨h.1, hP, hD, hS, h.2.2.2.2⟩)
theorem k_iald (E : CallFix p m c cc nL s args Ts own) (h : KS D A ws tys s H locs) (q0 t0 : Nat) {cA : ClassId} {n : Nat} {f : Nat → Int32} (ha : ws[q0]? = some (a, .inl (cA, n, .inl f))) (ht : tys[t0]? = some (cA, .int)) {i : Int32} (hin : vp_in i n) {v : Int32} (hv : f i.toNatClampNeg = v) (hdg : decode cc pc = .ok (.iaload, 1))
    (kk : W p l e R s m args below meth c H locs cells slots Q (F0 m (pc + 1) ls (.int v :: rest))) : W p l e R s m args below meth c H locs cells slots Q (F0 m pc ls (.int i :: .ref a :: rest)) := by
  subst hv
  exact va_iald E.1 E.2.1 h.1 h.2.1 q0 t0 ha ht hin hdg kk
theorem k_zald (E : CallFix p m c cc nL s args Ts own) (h : KS D A ws tys s H locs) (q0 t0 : Nat) {cA : ClassId} {n : Nat} {f : Nat → Int32} (ha : ws[q0]? = some (a, .inl (cA, n, .inl f))) (ht : tys[t0]? = some (cA, .boolean)) {i : Int32} (hin : vp_in i n) {v : Int32} (hv : f i.toNatClampNeg = v) (hdg : decode cc pc = .ok (.baload, 1))
    (kk : W p l e R s m args below meth c H locs cells slots Q (F0 m (pc + 1) ls (.int v :: rest))) : W p l e R s m args below meth c H locs cells slots Q (F0 m pc ls (.int i :: .ref a :: rest)) := by
  subst hv
  exact va_zald E.1 E.2.1 h.1 h.2.1 q0 t0 ha ht hin hdg kk
theorem k_bald (E : CallFix p m c cc nL s args Ts own) (h : KS D A ws tys s H locs) (q0 t0 : Nat) {cA : ClassId} {n : Nat} {f : Nat → Int32} (ha : ws[q0]? = some (a, .inl (cA, n, .inl f))) (ht : tys[t0]? = some (cA, .byte)) {i : Int32} (hin : vp_in i n) {v : Int32} (hv : f i.toNatClampNeg = v) (hdg : decode cc pc = .ok (.baload, 1))
    (kk : W p l e R s m args below meth c H locs cells slots Q (F0 m (pc + 1) ls (.int v :: rest))) : W p l e R s m args below meth c H locs cells slots Q (F0 m pc ls (.int i :: .ref a :: rest)) := by
  subst hv
  exact va_bald E.1 E.2.1 h.1 h.2.1 q0 t0 ha ht hin hdg kk
theorem k_sald (E : CallFix p m c cc nL s args Ts own) (h : KS D A ws tys s H locs) (q0 t0 : Nat) {cA : ClassId} {n : Nat} {f : Nat → Int32} (ha : ws[q0]? = some (a, .inl (cA, n, .inl f))) (ht : tys[t0]? = some (cA, .short)) {i : Int32} (hin : vp_in i n) {v : Int32} (hv : f i.toNatClampNeg = v) (hdg : decode cc pc = .ok (.saload, 1))
    (kk : W p l e R s m args below meth c H locs cells slots Q (F0 m (pc + 1) ls (.int v :: rest))) : W p l e R s m args below meth c H locs cells slots Q (F0 m pc ls (.int i :: .ref a :: rest)) := by
  subst hv
  exact va_sald E.1 E.2.1 h.1 h.2.1 q0 t0 ha ht hin hdg kk
theorem k_lald (E : CallFix p m c cc nL s args Ts own) (h : KS D A ws tys s H locs) (q0 t0 : Nat) {cA : ClassId} {n : Nat} {f : Nat → Int64} (ha : ws[q0]? = some (a, .inl (cA, n, .inr (.inl f)))) (ht : tys[t0]? = some (cA, .long)) {i : Int32} (hin : vp_in i n) {v : Int64} (hv : f i.toNatClampNeg = v) (hdg : decode cc pc = .ok (.laload, 1))
    (kk : W p l e R s m args below meth c H locs cells slots Q (F0 m (pc + 1) ls (.long v :: rest))) : W p l e R s m args below meth c H locs cells slots Q (F0 m pc ls (.int i :: .ref a :: rest)) := by
  subst hv
  exact va_lald E.1 E.2.1 h.1 h.2.1 q0 t0 ha ht hin hdg kk
theorem k_iast (E : CallFix p m c cc nL s args Ts own) (h : KS D A ws tys s H locs) (q0 t0 : Nat) {cA : ClassId} {n : Nat} {f : Nat → Int32} (ha : ws[q0]? = some (a, .inl (cA, n, .inl f))) (ht : tys[t0]? = some (cA, .int)) {i x : Int32} (hin : vp_in i n) {j : Nat} (hj : i.toNatClampNeg = j) {ws' : va_W} (hs : ws.set q0 (a, .inl (cA, n, .inl (upd f j x))) = ws') (hdg : decode cc pc = .ok (.iastore, 1))
    (kk : ∀ (H1 : Heap) (locs1 : List Loc), KS D A ws' tys s H1 locs1 → W p l e R s m args below meth c H1 locs1 cells slots Q (F0 m (pc + 1) ls rest)) : W p l e R s m args below meth c H locs cells slots Q (F0 m pc ls (.int x :: .int i :: .ref a :: rest)) := by
  subst hj
  subst hs
  exact va_iast E.1 E.2.1 h.1 h.2.1 h.2.2.1 h.2.2.2.1 q0 t0 ha ht hin hdg (fun H1 locs1 hP hD hS => kk H1 locs1 ⟨h.1, hP, hD, hS, h.2.2.2.2⟩)
theorem k_zast (E : CallFix p m c cc nL s args Ts own) (h : KS D A ws tys s H locs) (q0 t0 : Nat) {cA : ClassId} {n : Nat} {f : Nat → Int32} (ha : ws[q0]? = some (a, .inl (cA, n, .inl f))) (ht : tys[t0]? = some (cA, .boolean)) {i x : Int32} (hin : vp_in i n) {j : Nat} (hj : i.toNatClampNeg = j) {y : Int32} (hy : vp_nar .boolean x = y) {ws' : va_W} (hs : ws.set q0 (a, .inl (cA, n, .inl (upd f j y))) = ws') (hdg : decode cc pc = .ok (.bastore, 1))
    (kk : ∀ (H1 : Heap) (locs1 : List Loc), KS D A ws' tys s H1 locs1 → W p l e R s m args below meth c H1 locs1 cells slots Q (F0 m (pc + 1) ls rest)) : W p l e R s m args below meth c H locs cells slots Q (F0 m pc ls (.int x :: .int i :: .ref a :: rest)) := by
  subst hj
  subst hy
  subst hs
  exact va_zast E.1 E.2.1 h.1 h.2.1 h.2.2.1 h.2.2.2.1 q0 t0 ha ht hin hdg (fun H1 locs1 hP hD hS => kk H1 locs1 ⟨h.1, hP, hD, hS, h.2.2.2.2⟩)
theorem k_bast (E : CallFix p m c cc nL s args Ts own) (h : KS D A ws tys s H locs) (q0 t0 : Nat) {cA : ClassId} {n : Nat} {f : Nat → Int32} (ha : ws[q0]? = some (a, .inl (cA, n, .inl f))) (ht : tys[t0]? = some (cA, .byte)) {i x : Int32} (hin : vp_in i n) {j : Nat} (hj : i.toNatClampNeg = j) {y : Int32} (hy : vp_nar .byte x = y) {ws' : va_W} (hs : ws.set q0 (a, .inl (cA, n, .inl (upd f j y))) = ws') (hdg : decode cc pc = .ok (.bastore, 1))
    (kk : ∀ (H1 : Heap) (locs1 : List Loc), KS D A ws' tys s H1 locs1 → W p l e R s m args below meth c H1 locs1 cells slots Q (F0 m (pc + 1) ls rest)) : W p l e R s m args below meth c H locs cells slots Q (F0 m pc ls (.int x :: .int i :: .ref a :: rest)) := by
  subst hj
  subst hy
  subst hs
  exact va_bast E.1 E.2.1 h.1 h.2.1 h.2.2.1 h.2.2.2.1 q0 t0 ha ht hin hdg (fun H1 locs1 hP hD hS => kk H1 locs1 ⟨h.1, hP, hD, hS, h.2.2.2.2⟩)
theorem k_sast (E : CallFix p m c cc nL s args Ts own) (h : KS D A ws tys s H locs) (q0 t0 : Nat) {cA : ClassId} {n : Nat} {f : Nat → Int32} (ha : ws[q0]? = some (a, .inl (cA, n, .inl f))) (ht : tys[t0]? = some (cA, .short)) {i x : Int32} (hin : vp_in i n) {j : Nat} (hj : i.toNatClampNeg = j) {y : Int32} (hy : vp_nar .short x = y) {ws' : va_W} (hs : ws.set q0 (a, .inl (cA, n, .inl (upd f j y))) = ws') (hdg : decode cc pc = .ok (.sastore, 1))
    (kk : ∀ (H1 : Heap) (locs1 : List Loc), KS D A ws' tys s H1 locs1 → W p l e R s m args below meth c H1 locs1 cells slots Q (F0 m (pc + 1) ls rest)) : W p l e R s m args below meth c H locs cells slots Q (F0 m pc ls (.int x :: .int i :: .ref a :: rest)) := by
  subst hj
  subst hy
  subst hs
  exact va_sast E.1 E.2.1 h.1 h.2.1 h.2.2.1 h.2.2.2.1 q0 t0 ha ht hin hdg (fun H1 locs1 hP hD hS => kk H1 locs1 ⟨h.1, hP, hD, hS, h.2.2.2.2⟩)
theorem k_last (E : CallFix p m c cc nL s args Ts own) (h : KS D A ws tys s H locs) (q0 t0 : Nat) {cA : ClassId} {n : Nat} {f : Nat → Int64} (ha : ws[q0]? = some (a, .inl (cA, n, .inr (.inl f)))) (ht : tys[t0]? = some (cA, .long)) {i : Int32} {x : Int64} (hin : vp_in i n) {j : Nat} (hj : i.toNatClampNeg = j) {ws' : va_W} (hs : ws.set q0 (a, .inl (cA, n, .inr (.inl (vp_updL f j x)))) = ws') (hdg : decode cc pc = .ok (.lastore, 1))
    (kk : ∀ (H1 : Heap) (locs1 : List Loc), KS D A ws' tys s H1 locs1 → W p l e R s m args below meth c H1 locs1 cells slots Q (F0 m (pc + 1) ls rest)) : W p l e R s m args below meth c H locs cells slots Q (F0 m pc ls (.long x :: .int i :: .ref a :: rest)) := by
  subst hj
  subst hs
  exact va_last E.1 E.2.1 h.1 h.2.1 h.2.2.1 h.2.2.2.1 q0 t0 ha ht hin hdg (fun H1 locs1 hP hD hS => kk H1 locs1 ⟨h.1, hP, hD, hS, h.2.2.2.2⟩)
theorem k_alen (E : CallFix p m c cc nL s args Ts own) (h : KS D A ws tys s H locs) (q0 t0 : Nat) {cA : ClassId} {x : vp_A} (ha : ws[q0]? = some (a, .inl (cA, x))) {ty : FieldType} (ht : tys[t0]? = some (cA, ty)) {v : Int32} (hv : Int32.ofNat x.1 = v) (hdg : decode cc pc = .ok (.arraylength, 1))
    (kk : W p l e R s m args below meth c H locs cells slots Q (F0 m (pc + 1) ls (.int v :: rest))) : W p l e R s m args below meth c H locs cells slots Q (F0 m pc ls (.ref a :: rest)) :=
  va_alen E.1 E.2.1 h.1 h.2.1 q0 t0 ha ht hv hdg kk
theorem k_new (E : CallFix p m c cc nL s args Ts own) (h : KS D A ws tys s H locs) {C : String} {T : u_T} {N ci index : Nat} (hin : ∀ w ∈ u_ws C T N, w ∈ Ts) {ty : Nat → FieldType} (hty : ∀ k, k < N → parseFieldDescriptor (T k).2.2.1 = some (ty k)) (hcl : Cond.classLink own index C ∈ Ts) (hinst : Cond.instantiable C N ∈ Ts) (hini : Cond.initialized C ∈ Ts) (hc : vwCl[ci]? = some (C, T, N)) {fs : List Value} (hfs : ∀ j, j < N → defaultValue (ty j) = vp_V fs j) (hcells : cells + 1 ≤ R.cells) (hslots : slots + N ≤ R.slots) (hdg : decode cc pc = .ok (.new index, 3)) {k n : Nat} (hk : cells + 1 ≤ k) (hn : slots + N ≤ n)
    (kk : ∀ (q : Nat) (H1 : Heap), KS D A (ws ++ [(q, .inr (ci, fs))]) tys s H1 locs → W p l e R s m args below meth c H1 locs k n Q (F0 m (pc + 3) ls (.ref q :: rest))) : W p l e R s m args below meth c H locs cells slots Q (F0 m pc ls rest) :=
  va_new E.1 E.2.1 E.2.2.2.2 hin ty hty E.2.2.2.1 (E.2.2.2.2 _ hcl) (E.2.2.2.2 _ hinst) (E.2.2.2.2 _ hini) h.1 h.2.1 h.2.2.1 h.2.2.2.1 h.2.2.2.2 hc hfs hcells hslots hdg (fun q H1 hP hD hS => W.widen hk hn (kk q H1 ⟨h.1, hP, hD, hS, h.2.2.2.2⟩))
theorem k_newa (E : CallFix p m c cc nL s args Ts own) (h : KS D A ws tys s H locs) {atype : ArrayType} {ty : FieldType} (harr : Cond.arrayClass ty ∈ Ts) (hty : newarray.typeOf atype = ty) {n : Int32} {N' : Nat} {a0 : vp_A} (ha : ∀ cA : ClassId, vp_cell cA a0 = arrV cA N' (fun _ => defaultValue ty)) (hn : ¬ n < 0) (hN : n.toNatClampNeg = N') (hbytes : N' * componentBytes ty ≤ 536870912) (hcells : cells + 1 ≤ R.cells) (hslots : slots + N' ≤ R.slots) (hdg : decode cc pc = .ok (.newarray atype, 2)) {k z : Nat} (hk : cells + 1 ≤ k) (hz : slots + N' ≤ z)
    (kk : ∀ (q : Nat) (cA : ClassId) (H1 : Heap), KS D A (ws ++ [(q, .inl (cA, a0))]) (tys ++ [(cA, ty)]) s H1 locs → W p l e R s m args below meth c H1 locs k z Q (F0 m (pc + 2) ls (.ref q :: rest))) : W p l e R s m args below meth c H locs cells slots Q (F0 m pc ls (.int n :: rest)) := by
  subst hty
  exact va_newa E.1 E.2.1 (E.2.2.2.2 _ harr) rfl h.1 h.2.1 h.2.2.1 h.2.2.2.1 h.2.2.2.2 ha hn hN hbytes hcells hslots hdg (fun q cA H1 hK hP hD hS => W.widen hk hz (kk q cA H1 ⟨hK, hP, hD, hS, h.2.2.2.2⟩))
/-- a call whose callee makes no array: an int comes back, its cells are put back beside the rest -/
theorem kc_i {S : Type} {post : Int32 → S → Prop} {w1 : S → va_W} {wc wr : va_W} {mc ms : Nat} {st0 : List Value} {av : Array Value} (h : KS D A ws tys s H locs)
    (hr : va_Run p l e R s m args below meth c H locs cells slots mc ms (F0 m pc ls st0) rest (va_Qi post (KPost D (va_A wc H.size) w1) (va_A wc H.size) av) (va_A wc H.size))
    (isC isR : List Nat) (hC : isC.map (fun i => ws[i]?) = wc.map some) (hR : isR.map (fun i => ws[i]?) = wr.map some) (hn : va_nd isR = true) (hdis : ∀ i ∈ isR, i ∉ isC)
    (kk : ∀ (r : Int32) (u : S) (H1 : Heap) (locs1 : List Loc), post r u → KS D A (wr ++ w1 u) tys s H1 locs1 → W p l e R s m args below meth c H1 locs1 (cells + mc) (slots + ms) Q (F0 m (pc + 3) ls (.int r :: rest))) : W p l e R s m args below meth c H locs cells slots Q (F0 m pc ls st0) := by
  have hFc := va_free (wc := wc) h.2.2.1 h.2.2.2.1 h.2.2.2.2 isC hC
  refine va_calli hr h.2.2.2.1 (fun q _ hq => hFc q hq) hFc (fun r u t H1 locs1 ht hvm hw hB hz1 hk1 hS => ?_)
  obtain ⟨hP1, hD1⟩ := hB
  rw [ht] at hP1
  obtain ⟨hP, hD⟩ := va_join h.2.1 h.2.2.1 isC isR hC hR hn hdis hk1 hFc hP1 hD1
  exact kk r u H1 locs1 hw ⟨h.1, hP, hD, hS, h.2.2.2.2⟩
theorem kc_l {S : Type} {post : Int64 → S → Prop} {w1 : S → va_W} {wc wr : va_W} {mc ms : Nat} {st0 : List Value} {av : Array Value} (h : KS D A ws tys s H locs)
    (hr : va_Run p l e R s m args below meth c H locs cells slots mc ms (F0 m pc ls st0) rest (va_Ql post (KPost D (va_A wc H.size) w1) (va_A wc H.size) av) (va_A wc H.size))
    (isC isR : List Nat) (hC : isC.map (fun i => ws[i]?) = wc.map some) (hR : isR.map (fun i => ws[i]?) = wr.map some) (hn : va_nd isR = true) (hdis : ∀ i ∈ isR, i ∉ isC)
    (kk : ∀ (r : Int64) (u : S) (H1 : Heap) (locs1 : List Loc), post r u → KS D A (wr ++ w1 u) tys s H1 locs1 → W p l e R s m args below meth c H1 locs1 (cells + mc) (slots + ms) Q (F0 m (pc + 3) ls (.long r :: rest))) : W p l e R s m args below meth c H locs cells slots Q (F0 m pc ls st0) := by
  have hFc := va_free (wc := wc) h.2.2.1 h.2.2.2.1 h.2.2.2.2 isC hC
  refine va_calll hr h.2.2.2.1 (fun q _ hq => hFc q hq) hFc (fun r u t H1 locs1 ht hvm hw hB hz1 hk1 hS => ?_)
  obtain ⟨hP1, hD1⟩ := hB
  rw [ht] at hP1
  obtain ⟨hP, hD⟩ := va_join h.2.1 h.2.2.1 isC isR hC hR hn hdis hk1 hFc hP1 hD1
  exact kk r u H1 locs1 hw ⟨h.1, hP, hD, hS, h.2.2.2.2⟩
theorem kc_v {S : Type} {post : S → Prop} {w1 : S → va_W} {wc wr : va_W} {mc ms : Nat} {st0 : List Value} {av : Array Value} (h : KS D A ws tys s H locs)
    (hr : va_Run p l e R s m args below meth c H locs cells slots mc ms (F0 m pc ls st0) rest (va_Qv post (KPost D (va_A wc H.size) w1) (va_A wc H.size) av) (va_A wc H.size))
    (isC isR : List Nat) (hC : isC.map (fun i => ws[i]?) = wc.map some) (hR : isR.map (fun i => ws[i]?) = wr.map some) (hn : va_nd isR = true) (hdis : ∀ i ∈ isR, i ∉ isC)
    (kk : ∀ (u : S) (H1 : Heap) (locs1 : List Loc), post u → KS D A (wr ++ w1 u) tys s H1 locs1 → W p l e R s m args below meth c H1 locs1 (cells + mc) (slots + ms) Q (F0 m (pc + 3) ls rest)) : W p l e R s m args below meth c H locs cells slots Q (F0 m pc ls st0) := by
  have hFc := va_free (wc := wc) h.2.2.1 h.2.2.2.1 h.2.2.2.2 isC hC
  refine va_callv hr h.2.2.2.1 (fun q _ hq => hFc q hq) hFc (fun u t H1 locs1 ht hvm hw hB hz1 hk1 hS => ?_)
  obtain ⟨hP1, hD1⟩ := hB
  rw [ht] at hP1
  obtain ⟨hP, hD⟩ := va_join h.2.1 h.2.2.1 isC isR hC hR hn hdis hk1 hFc hP1 hD1
  exact kk u H1 locs1 hw ⟨h.1, hP, hD, hS, h.2.2.2.2⟩
/-- a constructor's call: its cells and its array classes come -/
theorem kc_vK {S : Type} {post : S → Prop} {w1 : S → va_W} {t1 : S → List (ClassId × FieldType)} {wc wr : va_W} {mc ms : Nat} {st0 : List Value} {av : Array Value} (h : KS D A ws tys s H locs)
    (hr : va_Run p l e R s m args below meth c H locs cells slots mc ms (F0 m pc ls st0) rest (va_Qv post (KPostK D (va_A wc H.size) w1 t1) (va_A wc H.size) av) (va_A wc H.size))
    (isC isR : List Nat) (hC : isC.map (fun i => ws[i]?) = wc.map some) (hR : isR.map (fun i => ws[i]?) = wr.map some) (hn : va_nd isR = true) (hdis : ∀ i ∈ isR, i ∉ isC) {k n : Nat} (hk : cells + mc ≤ k) (hn2 : slots + ms ≤ n)
    (kk : ∀ (u : S) (H1 : Heap) (locs1 : List Loc), post u → KS D A (wr ++ w1 u) (tys ++ t1 u) s H1 locs1 → W p l e R s m args below meth c H1 locs1 k n Q (F0 m (pc + 3) ls rest)) : W p l e R s m args below meth c H locs cells slots Q (F0 m pc ls st0) := by
  have hFc := va_free (wc := wc) h.2.2.1 h.2.2.2.1 h.2.2.2.2 isC hC
  refine va_callv hr h.2.2.2.1 (fun q _ hq => hFc q hq) hFc (fun u t H1 locs1 ht hvm hw hB hz1 hk1 hS => ?_)
  obtain ⟨hP1, hD1, hK1⟩ := hB
  rw [ht] at hP1
  obtain ⟨hP, hD⟩ := va_join h.2.1 h.2.2.1 isC isR hC hR hn hdis hk1 hFc hP1 hD1
  exact W.widen hk hn2 (kk u H1 locs1 hw ⟨h.1.app (va_K.moved hvm.symm hK1), hP, hD, hS, h.2.2.2.2⟩)
end KB
/-- a contract out of a walk -/
theorem kMet {l : Launch} {y : MethodName} {wsM ws' : List Cond} {rm : Room} {cc : ByteArray} {maxL : Nat} {ret : Option FieldType} {av : List Value} {D : va_G} {wc : va_W} {tc : List (ClassId × FieldType)} {sz : Nat} {X : State → Prop} {mc ms : Nat} {Qc : (Nat → Prop) → Array Value → State → Outcome → State → Prop}
    (hy : plainName y.cls = true) (hw : wsM = Cond.code y cc maxL ret :: ws') (hlen : (lg_sl av).length ≤ maxL)
    (body : ∀ (p : Program) (e : Env) (s : State) (m : MethodId) (below : List Frame) (meth : Method) (c : Code) (A : Nat → Prop) (ls : Array Slot), CallFix p m c cc maxL s av.toArray wsM y.cls → meth.sig.returnType = ret → meth.locks = false → meth.name = y.name → s.heap.size = sz → va_A wc sz = A → X s → KS D A wc tc s s.heap [] → lv_has ls maxL (lv_args 0 av) → W p l e rm s m av.toArray below meth c s.heap [] 0 0 (MQ below (Qc A) av.toArray s mc ms A) (F0 m 0 ls [])) :
    Met l y wsM rm (va_Pc av (KPre D wc tc sz X)) (Qc (va_A wc sz)) mc ms (va_A wc sz) := by
  refine Met.ofW (cc := cc) (maxL := maxL) (ret := ret) hy hw ?_
  intro p e s m args below meth c s₁ B hml hv
  obtain ⟨rfl, hsz, hP, hK, hD0, hX⟩ := hv
  have hts := atoms_spec (ws := wsM) B.pre
  have hown : s.vm.findClass y.cls = some m.cls := findClass_of_methodNamed B.named
  rw [lg_entry_eq]
  refine body p e s m below meth c _ _ ⟨B.exec, B.bytes, hml, hown, hts⟩ B.returns B.notSynchronized (name_of_methodNamed B.named B.method).1 hsz rfl hX ⟨hK, hP, hD0.self, va_S.rf, fun q h => Or.inr (by rw [hsz] at h; exact h)⟩ (lv_entry av hlen)
end
section
-- plain facts of the walk
theorem vin_dec {i : Int32} {n : Nat} (h : decide (0 ≤ i.toInt ∧ i.toInt < n) = true) : vp_in i n := vp_in_iff.mpr (of_decide_eq_true h)
theorem kb0 {r : Int32} {C : Prop} [Decidable C] (h : r = if C then 1 else 0) (c : r = 0) : ¬ C := by
  intro hc
  rw [if_pos hc] at h
  rw [h] at c
  exact absurd c (by decide)
theorem kb1 {r : Int32} {C : Prop} [Decidable C] (h : r = if C then 1 else 0) (c : ¬ r = 0) : C := by
  by_cases hc : C
  · exact hc
  · rw [if_neg hc] at h
    exact absurd h c
theorem fa_lt (a b : Int32) : a < b ↔ a.toInt < b.toInt := Int32.lt_iff_toInt_lt
theorem fa_le (a b : Int32) : a ≤ b ↔ a.toInt ≤ b.toInt := Int32.le_iff_toInt_le
theorem fa_eq (a b : Int32) : a = b ↔ a.toInt = b.toInt := ⟨fun h => by rw [h], fun h => Int32.toInt_inj.mp h⟩
theorem ksw3 {x : Int32} (h0 : ¬ x = 0) (h1 : ¬ x = 1) (h2 : ¬ x = 2) : x.toInt < 0 ∨ 2 < x.toInt := by
  rw [fa_eq] at h0 h1 h2
  have e0 : (0 : Int32).toInt = 0 := by decide
  have e1 : (1 : Int32).toInt = 1 := by decide
  have e2 : (2 : Int32).toInt = 2 := by decide
  omega
theorem vin_of {x N : Int32} {n : Nat} (hN : N.toInt = n) (h0 : 0 ≤ x) (h1 : x < N) : vp_in x n := by
  rw [fa_le] at h0
  rw [fa_lt] at h1
  have e0 : (0 : Int32).toInt = 0 := by decide
  exact vp_in_iff.mpr ⟨by omega, by omega⟩
theorem kn_lt {i N : Nat} {x : Int32} (hx : x = nI N) (hN : N < 2 ^ 31) (hi : i < 2 ^ 31) (h : ¬ x ≤ nI i) : i < N := by
  rw [hx, nI_leI hN hi] at h
  omega
theorem kn_ge {i N : Nat} {x : Int32} (hx : x = nI N) (hN : N < 2 ^ 31) (hi : i < 2 ^ 31) (h : x ≤ nI i) : N ≤ i := by
  rw [hx, nI_leI hN hi] at h
  exact h
section KB2
variable {p : Program} {l : Launch} {e : Env} {R : Room} {s : State} {m : MethodId} {args : Array Value} {below : List Frame} {meth : Method} {c : Code} {H : Heap} {locs : List Loc} {cells slots : Nat} {Q : State → Prop} {cc : ByteArray} {nL : Nat} {Ts : List Cond} {own : String} {A : Nat → Prop} {D : va_G} {ws : va_W} {tys : List (ClassId × FieldType)} {pc a : Nat} {ls : Array Slot} {rest : List Value}
theorem k_topi {x y : Int32} (h : x = y) (k : W p l e R s m args below meth c H locs cells slots Q (F0 m pc ls (.int y :: rest))) : W p l e R s m args below meth c H locs cells slots Q (F0 m pc ls (.int x :: rest)) := h ▸ k
theorem k_topl {x y : Int64} (h : x = y) (k : W p l e R s m args below meth c H locs cells slots Q (F0 m pc ls (.long y :: rest))) : W p l e R s m args below meth c H locs cells slots Q (F0 m pc ls (.long x :: rest)) := h ▸ k
/-- a loop at Hd: a state x of type σ, its cells and locals, an invariant, a measure that falls -/
theorem k_loop {σ : Type} {Hd : Nat} (wf : σ → va_W) (lf : σ → List (Nat × Value)) (I : Nat → σ → Prop)
    (step : ∀ (n : Nat) (x : σ) (H : Heap) (locs : List Loc) (ls : Array Slot), I n x → KS D A (wf x) tys s H locs → lv_has ls nL (lf x) → (∀ (n' : Nat) (x' : σ) (H' : Heap) (locs' : List Loc) (ls' : Array Slot), n' < n → I n' x' → KS D A (wf x') tys s H' locs' → lv_has ls' nL (lf x') → W p l e R s m args below meth c H' locs' cells slots Q (F0 m Hd ls' [])) → W p l e R s m args below meth c H locs cells slots Q (F0 m Hd ls []))
    (n0 : Nat) (x0 : σ) (h0 : I n0 x0) (h : KS D A (wf x0) tys s H locs) (hl : lv_has ls nL (lf x0)) : W p l e R s m args below meth c H locs cells slots Q (F0 m Hd ls []) := by
  have main : ∀ (k n : Nat), n < k → ∀ (x : σ) (H : Heap) (locs : List Loc) (ls : Array Slot), I n x → KS D A (wf x) tys s H locs → lv_has ls nL (lf x) → W p l e R s m args below meth c H locs cells slots Q (F0 m Hd ls []) := by
    intro k
    induction k with
    | zero => intro n hn; exact absurd hn (Nat.not_lt_zero n)
    | succ k ih =>
      intro n hn x H locs ls hI h hl
      exact step n x H locs ls hI h hl (fun n' x' H' locs' ls' hlt hI' h' hl' => ih n' (Nat.lt_of_lt_of_le hlt (Nat.le_of_lt_succ hn)) x' H' locs' ls' hI' h' hl')
  exact main (n0 + 1) n0 (Nat.lt_succ_self n0) x0 H locs ls h0 h hl
theorem k_perm {ws' : va_W} (h : KS D A ws tys s H locs) (is : List Nat) (hn : va_nd is = true) (h1 : is.filterMap (fun i => ws[i]?) = ws') (h2 : is.map (fun i => ws[i]?) = ws'.map some) : KS D A ws' tys s H locs :=
  ⟨h.1, h.2.1.sub is h1, h.2.2.1.sub is hn h2, h.2.2.2⟩
theorem k_cellI {cA : ClassId} {n : Nat} {f g : Nat → Int32} (h : ∀ j, j < n → f j = g j) : vp_cell cA (n, .inl f) = vp_cell cA (n, .inl g) := by
  show arrV cA n (fun j => .int (f j)) = arrV cA n (fun j => .int (g j))
  unfold arrV
  congr 1
  apply congrArg
  funext j
  exact congrArg Value.int (h j.val j.isLt)
theorem k_cellL {cA : ClassId} {n : Nat} {f g : Nat → Int64} (h : ∀ j, j < n → f j = g j) : vp_cell cA (n, .inr (.inl f)) = vp_cell cA (n, .inr (.inl g)) := by
  show arrV cA n (fun j => .long (f j)) = arrV cA n (fun j => .long (g j))
  unfold arrV
  congr 1
  apply congrArg
  funext j
  exact congrArg Value.long (h j.val j.isLt)
theorem k_set {q0 : Nat} {x y : va_E} {ws' : va_W} (h : KS D A ws tys s H locs) (hx : ws[q0]? = some (a, x)) (hxy : ∀ H : Heap, va_at D vwCl (a, x) H → va_at D vwCl (a, y) H) (hs : ws.set q0 (a, y) = ws') : KS D A ws' tys s H locs := by
  subst hs
  obtain ⟨hK, hP, hD, hS⟩ := h
  refine ⟨hK, ?_, ?_, hS⟩
  · intro k q hq
    rw [List.getElem?_set] at hq
    by_cases hk : q0 = k
    · subst hk
      have hlt : q0 < ws.length := (List.getElem?_eq_some_iff.mp hx).1
      simp only [hlt, if_true] at hq
      cases hq
      exact hxy H (hP q0 _ hx)
    · rw [if_neg hk] at hq
      exact hP k q hq
  · have hget : ∀ (k : Nat) (q : Nat × va_E), (ws.set q0 (a, y))[k]? = some q → ∃ q' : Nat × va_E, ws[k]? = some q' ∧ q'.1 = q.1 := by
      intro k q hq
      rw [List.getElem?_set] at hq
      by_cases hk : q0 = k
      · subst hk
        have hlt : q0 < ws.length := (List.getElem?_eq_some_iff.mp hx).1
        simp only [hlt, if_true] at hq
        cases hq
        exact ⟨_, hx, rfl⟩
      · rw [if_neg hk] at hq
        exact ⟨q, hq, rfl⟩
    refine ⟨fun i j u v hu hv huv => ?_, fun k q hq => ?_⟩
    · obtain ⟨u', hu', eu⟩ := hget i u hu
      obtain ⟨v', hv', ev⟩ := hget j v hv
      exact hD.1 i j u' v' hu' hv' (by rw [eu, ev]; exact huv)
    · obtain ⟨q', hq', eq⟩ := hget k q hq
      rw [← eq]
      exact hD.2 k q' hq'
theorem k_cong {cA : ClassId} {n : Nat} {f g : Nat → Int32} {ws' : va_W} (q0 : Nat) (h : KS D A ws tys s H locs) (hx : ws[q0]? = some (a, .inl (cA, n, .inl f))) (hfg : ∀ j, j < n → f j = g j) (hs : ws.set q0 (a, .inl (cA, n, .inl g)) = ws') : KS D A ws' tys s H locs :=
  k_set h hx (fun H h => by
    show H[a]? = some (vp_cell cA (n, .inl g))
    rw [← k_cellI hfg]
    exact h) hs
theorem k_congL {cA : ClassId} {n : Nat} {f g : Nat → Int64} {ws' : va_W} (q0 : Nat) (h : KS D A ws tys s H locs) (hx : ws[q0]? = some (a, .inl (cA, n, .inr (.inl f)))) (hfg : ∀ j, j < n → f j = g j) (hs : ws.set q0 (a, .inl (cA, n, .inr (.inl g))) = ws') : KS D A ws' tys s H locs :=
  k_set h hx (fun H h => by
    show H[a]? = some (vp_cell cA (n, .inr (.inl g)))
    rw [← k_cellL hfg]
    exact h) hs
/-- System.arraycopy of a whole long row into another of the same length -/
theorem k_copyl (E : CallFix p m c cc nL s args Ts own) (hml : c.maxLocals = ls.size) (h : KS D A ws tys s H locs) {index : Nat} (hlink : Cond.methodLink own index arraycopyName ∈ Ts) (hnat : Cond.native arraycopyName ∈ Ts) (hstat : Cond.static arraycopyName ∈ Ts) (hini : Cond.initialized "java/lang/System" ∈ Ts) (q0 q1 t0 t1 : Nat) {a0 : Nat} {c0 c1 : ClassId} {n : Nat} {N : Int32} {f g : Nat → Int64} (ha0 : ws[q0]? = some (a0, .inl (c0, n, .inr (.inl f)))) (ha1 : ws[q1]? = some (a, .inl (c1, n, .inr (.inl g)))) (ht0 : tys[t0]? = some (c0, .long)) (ht1 : tys[t1]? = some (c1, .long)) (hN : N.toNatClampNeg = n) (h3 : ¬ N < 0) (_h4 : True) {ws' : va_W} (hs : ws.set q1 (a, .inl (c1, n, .inr (.inl f))) = ws')
    (hframes : 1 ≤ R.frames) (hlocals : (rest.map fun v => v.category).sum + (nativeFrameWords "java/lang/System" "arraycopy" 5 + 11) ≤ R.locals) (hdg : decode cc pc = .ok (.invokestatic index, 3))
    (kk : ∀ (H1 : Heap) (locs1 : List Loc), KS D A ws' tys s H1 locs1 → W p l e R s m args below meth c H1 locs1 cells slots Q (F0 m (pc + 3) ls rest)) : W p l e R s m args below meth c H locs cells slots Q (F0 m pc ls (.int N :: .int 0 :: .ref a :: .int 0 :: .ref a0 :: rest)) := by
  have z0 : (0 : Int32).toNatClampNeg = 0 := rfl
  refine va_copyl E.1 E.2.1 hml E.2.2.2.1 (E.2.2.2.2 _ hlink) (E.2.2.2.2 _ hnat) (E.2.2.2.2 _ hstat) (E.2.2.2.2 _ hini) h.1 h.2.1 h.2.2.1 h.2.2.2.1 q0 q1 t0 t1 ha0 ha1 ht0 ht1 rfl (by decide) (by decide) h3 (by rw [z0, hN]; omega) (by rw [z0, hN]; omega) (fun i _ => rfl) hframes hlocals hdg (fun H1 locs1 hP hD hS => kk H1 locs1 ?_)
  have hlt : q1 < ws.length := (List.getElem?_eq_some_iff.mp ha1).1
  have hK1 : KS D A (ws.set q1 (a, .inl (c1, n, .inr (.inl (va_cpy f g (0 : Int32).toNatClampNeg (0 : Int32).toNatClampNeg N.toNatClampNeg))))) tys s H1 locs1 := ⟨h.1, hP, hD, hS, h.2.2.2.2⟩
  have hget : (ws.set q1 (a, .inl (c1, n, .inr (.inl (va_cpy f g (0 : Int32).toNatClampNeg (0 : Int32).toNatClampNeg N.toNatClampNeg)))))[q1]? = some (a, .inl (c1, n, .inr (.inl (va_cpy f g (0 : Int32).toNatClampNeg (0 : Int32).toNatClampNeg N.toNatClampNeg)))) := by
    rw [List.getElem?_set]
    simp only [hlt, if_true]
  refine k_congL (g := f) q1 hK1 hget (fun j hj => ?_) (by rw [List.set_set]; exact hs)
  rw [z0, hN, pk_cpy_in (by omega) (by omega)]
  congr 1
  omega
end KB2
theorem fb_bmod {z : Int} (h1 : -2147483648 ≤ z) (h2 : z < 2147483648) : z.bmod (2 ^ 32) = z := by
  rw [Int.bmod_eq_of_le (by omega) (by omega)]
theorem fb_rng (x : Int32) : -2147483648 ≤ x.toInt ∧ x.toInt < 2147483648 := by
  have h1 := Int32.le_toInt x
  have h2 := Int32.toInt_lt x
  omega
theorem fa_lt64 (a b : Int64) : a < b ↔ a.toInt < b.toInt := Int64.lt_iff_toInt_lt
theorem fa_le64 (a b : Int64) : a ≤ b ↔ a.toInt ≤ b.toInt := Int64.le_iff_toInt_le
theorem fa_eq64 (a b : Int64) : a = b ↔ a.toInt = b.toInt := Int64.toInt_inj.symm
/-- the three answers of lcmp -/
theorem klc (x y : Int64) : (lg_cmp x y = 1 ∧ y.toInt < x.toInt) ∨ (lg_cmp x y = 0 ∧ x.toInt = y.toInt) ∨ (lg_cmp x y = -1 ∧ x.toInt < y.toInt) := by
  unfold lg_cmp
  by_cases h : x > y
  · rw [if_pos h]
    exact Or.inl ⟨rfl, (fa_lt64 _ _).mp h⟩
  · rw [if_neg h]
    by_cases h2 : x = y
    · rw [if_pos h2]
      exact Or.inr (Or.inl ⟨rfl, by rw [h2]⟩)
    · rw [if_neg h2]
      have h3 : ¬ y.toInt < x.toInt := fun z => h ((fa_lt64 _ _).mpr z)
      have h4 : ¬ x.toInt = y.toInt := fun z => h2 ((fa_eq64 _ _).mpr z)
      exact Or.inr (Or.inr ⟨rfl, by omega⟩)
theorem klt_p {x y : Int64} (h : lg_cmp x y < 0) : x.toInt < y.toInt := by
  rcases klc x y with ⟨e, k⟩ | ⟨e, k⟩ | ⟨e, k⟩ <;> rw [e] at h <;> first | exact k | exact absurd h (by decide)
theorem klt_n {x y : Int64} (h : ¬ lg_cmp x y < 0) : ¬ x.toInt < y.toInt := by
  rcases klc x y with ⟨e, k⟩ | ⟨e, k⟩ | ⟨e, k⟩ <;> rw [e] at h <;> first | omega | exact absurd (by decide) h
theorem kge_p {x y : Int64} (h : 0 ≤ lg_cmp x y) : y.toInt ≤ x.toInt := by
  rcases klc x y with ⟨e, k⟩ | ⟨e, k⟩ | ⟨e, k⟩ <;> rw [e] at h <;> first | omega | exact absurd h (by decide)
theorem kge_n {x y : Int64} (h : ¬ 0 ≤ lg_cmp x y) : ¬ y.toInt ≤ x.toInt := by
  rcases klc x y with ⟨e, k⟩ | ⟨e, k⟩ | ⟨e, k⟩ <;> rw [e] at h <;> first | omega | exact absurd (by decide) h
theorem kgt_p {x y : Int64} (h : 0 < lg_cmp x y) : y.toInt < x.toInt := by
  rcases klc x y with ⟨e, k⟩ | ⟨e, k⟩ | ⟨e, k⟩ <;> rw [e] at h <;> first | omega | exact absurd h (by decide)
theorem kgt_n {x y : Int64} (h : ¬ 0 < lg_cmp x y) : ¬ y.toInt < x.toInt := by
  rcases klc x y with ⟨e, k⟩ | ⟨e, k⟩ | ⟨e, k⟩ <;> rw [e] at h <;> first | omega | exact absurd (by decide) h
theorem kle_p {x y : Int64} (h : lg_cmp x y ≤ 0) : x.toInt ≤ y.toInt := by
  rcases klc x y with ⟨e, k⟩ | ⟨e, k⟩ | ⟨e, k⟩ <;> rw [e] at h <;> first | omega | exact absurd h (by decide)
theorem kle_n {x y : Int64} (h : ¬ lg_cmp x y ≤ 0) : ¬ x.toInt ≤ y.toInt := by
  rcases klc x y with ⟨e, k⟩ | ⟨e, k⟩ | ⟨e, k⟩ <;> rw [e] at h <;> first | omega | exact absurd (by decide) h
theorem keq_p {x y : Int64} (h : lg_cmp x y = 0) : x.toInt = y.toInt := by
  rcases klc x y with ⟨e, k⟩ | ⟨e, k⟩ | ⟨e, k⟩ <;> rw [e] at h <;> first | omega | exact absurd h (by decide)
theorem keq_n {x y : Int64} (h : ¬ lg_cmp x y = 0) : ¬ x.toInt = y.toInt := by
  rcases klc x y with ⟨e, k⟩ | ⟨e, k⟩ | ⟨e, k⟩ <;> rw [e] at h <;> first | omega | exact absurd rfl h
theorem keq64_p {x y : Int64} (h : lg_cmp x y = 0) : x = y := (fa_eq64 _ _).mpr (keq_p h)
theorem keq64_n {x y : Int64} (h : ¬ lg_cmp x y = 0) : ¬ x = y := fun e => keq_n h (by rw [e])
/-- a number cut to w bits -/
def kcut (w : Int32) (v : Int64) : Int64 := v &&& ((1 <<< (w.toInt64 &&& 63)) - 1)
/-- what place x of the inside gets when v is put there -/
def kput (w : Nat → Int32) (x : Int32) (v : Int64) : Int64 := if x.toInt < 8 then kcut (w x.toNatClampNeg) v else v &&& 4294967295
theorem fb_bmodL {z : Int} (h1 : -9223372036854775808 ≤ z) (h2 : z < 9223372036854775808) : z.bmod (2 ^ 64) = z := by
  rw [Int.bmod_eq_of_le (by omega) (by omega)]
theorem kaddL (x y : Int32) : (x.toInt64 + y.toInt64).toInt = x.toInt + y.toInt := by
  have h1 := fb_rng x
  have h2 := fb_rng y
  rw [Int64.toInt_add, Int32.toInt_toInt64, Int32.toInt_toInt64, fb_bmodL (by omega) (by omega)]
theorem kcopyL {g f : Nat → Int64} {i : Nat} (h : ∀ j, j < i → g j = f j) : ∀ j, j < i + 1 → vp_updL g i (f i) j = f j := by
  intro j hj
  unfold vp_updL
  by_cases e : j = i
  · rw [if_pos e, e]
  · rw [if_neg e]
    exact h j (by omega)
end
section
set_option maxHeartbeats 4000000 in
set_option maxRecDepth 100000 in
theorem c_X7_isRegister (l : Launch) (dC : Nat → ClassId) (dI : Nat → Nat → Nat) (sz : Nat) (p0 : Int32)  : Met l yX7_isRegister wsX7_isRegister ({ frames := 0, cells := 0, slots := 0, locals := 0 } : Room) (va_Pc [.int p0] (KPre (dC, dI) [] [] sz (fun _ => True))) (va_Qi (fun (r : Int32) (u : Unit) => r = if 0 ≤ p0.toInt ∧ p0.toInt < 8 then 1 else 0) (KPost (dC, dI) (va_A [] sz) (fun (u : Unit) => [])) (va_A [] sz)) 0 0 (va_A [] sz) := by
  refine kMet (y := yX7_isRegister) (wsM := wsX7_isRegister) (cc := cX7_isRegister) (maxL := 1) (ret := (some .boolean)) (rm := ({ frames := 0, cells := 0, slots := 0, locals := 0 } : Room)) (mc := 0) (ms := 0) (av := [.int p0]) (D := (dC, dI)) (wc := []) (tc := []) (sz := sz) (X := fun _ => True) (Qc := fun A => va_Qi (fun (r : Int32) (u : Unit) => r = if 0 ≤ p0.toInt ∧ p0.toInt < 8 then 1 else 0) (KPost (dC, dI) A (fun (u : Unit) => [])) A) (by decide) rfl (Nat.le_of_ble_eq_true rfl) ?_
  intro p e s m below meth c A ls E hr hlocks hnm hsz hAe hX h hl
  have hx := E.1
  have hb := E.2.1
  have hl : lv_has ls 1 [(0, .int p0)] := hl
  refine lv_iload_n hx hb dX7_isRegister_0 rfl (lv_at hl 0 rfl) ?_
  refine lv_if_lt (tgt := 14) hx hb dX7_isRegister_1 (by decide) (fun c_1 => ?_) (fun c_1 => ?_)
  · skip
    have i_1 : p0.toInt < 0 := (fa_lt _ _).mp c_1
    refine lv_iconst (v := 0) hx hb dX7_isRegister_14 (by decide) ?_
    have hP9 := h.2.1.sub [] rfl
    have hD9 := h.2.2.1.sub (ws' := []) [] (by decide) rfl
    exact W.zret (v := 0) hx hb hr (by decide) (fun t ht hW => ⟨⟨0, (), rfl, (by (repeat' split) <;> first | rfl | contradiction | omega), (by rw [ht]; exact hP9), hD9⟩, h.2.2.2.1.F ht⟩) h.2.2.2.1.2.2 dX7_isRegister_15 hlocks
  · skip
    have i_1 : ¬ p0.toInt < 0 := fun h9 => c_1 ((fa_lt _ _).mpr h9)
    refine lv_iload_n hx hb dX7_isRegister_4 rfl (lv_at hl 0 rfl) ?_
    refine lv_bipush (v := 8) hx hb dX7_isRegister_5 (by decide) ?_
    refine lv_icmp_ge (tgt := 14) hx hb dX7_isRegister_7 (by decide) (fun c_2 => ?_) (fun c_2 => ?_)
    · skip
      have i_2 : 8 ≤ p0.toInt := (fa_le _ _).mp c_2
      refine lv_iconst (v := 0) hx hb dX7_isRegister_14 (by decide) ?_
      have hP9 := h.2.1.sub [] rfl
      have hD9 := h.2.2.1.sub (ws' := []) [] (by decide) rfl
      exact W.zret (v := 0) hx hb hr (by decide) (fun t ht hW => ⟨⟨0, (), rfl, (by (repeat' split) <;> first | rfl | contradiction | omega), (by rw [ht]; exact hP9), hD9⟩, h.2.2.2.1.F ht⟩) h.2.2.2.1.2.2 dX7_isRegister_15 hlocks
    · skip
      have i_2 : ¬ 8 ≤ p0.toInt := fun h9 => c_2 ((fa_le _ _).mpr h9)
      refine lv_iconst (v := 1) hx hb dX7_isRegister_10 (by decide) ?_
      refine lv_goto (tgt := 15) hx hb dX7_isRegister_11 (by decide) ?_
      have hP9 := h.2.1.sub [] rfl
      have hD9 := h.2.2.1.sub (ws' := []) [] (by decide) rfl
      exact W.zret (v := 1) hx hb hr (by decide) (fun t ht hW => ⟨⟨1, (), rfl, (by (repeat' split) <;> first | rfl | contradiction | omega), (by rw [ht]; exact hP9), hD9⟩, h.2.2.2.1.F ht⟩) h.2.2.2.1.2.2 dX7_isRegister_15 hlocks
set_option maxHeartbeats 4000000 in
set_option maxRecDepth 100000 in
theorem c_X7_isInstruction (l : Launch) (dC : Nat → ClassId) (dI : Nat → Nat → Nat) (sz : Nat) (p0 : Int32)  : Met l yX7_isInstruction wsX7_isInstruction ({ frames := 0, cells := 0, slots := 0, locals := 0 } : Room) (va_Pc [.int p0] (KPre (dC, dI) [] [] sz (fun _ => True))) (va_Qi (fun (r : Int32) (u : Unit) => r = if 0 ≤ p0.toInt ∧ p0.toInt < 12 then 1 else 0) (KPost (dC, dI) (va_A [] sz) (fun (u : Unit) => [])) (va_A [] sz)) 0 0 (va_A [] sz) := by
  refine kMet (y := yX7_isInstruction) (wsM := wsX7_isInstruction) (cc := cX7_isInstruction) (maxL := 1) (ret := (some .boolean)) (rm := ({ frames := 0, cells := 0, slots := 0, locals := 0 } : Room)) (mc := 0) (ms := 0) (av := [.int p0]) (D := (dC, dI)) (wc := []) (tc := []) (sz := sz) (X := fun _ => True) (Qc := fun A => va_Qi (fun (r : Int32) (u : Unit) => r = if 0 ≤ p0.toInt ∧ p0.toInt < 12 then 1 else 0) (KPost (dC, dI) A (fun (u : Unit) => [])) A) (by decide) rfl (Nat.le_of_ble_eq_true rfl) ?_
  intro p e s m below meth c A ls E hr hlocks hnm hsz hAe hX h hl
  have hx := E.1
  have hb := E.2.1
  have hl : lv_has ls 1 [(0, .int p0)] := hl
  refine lv_iload_n hx hb dX7_isInstruction_0 rfl (lv_at hl 0 rfl) ?_
  refine lv_if_lt (tgt := 14) hx hb dX7_isInstruction_1 (by decide) (fun c_1 => ?_) (fun c_1 => ?_)
  · skip
    have i_1 : p0.toInt < 0 := (fa_lt _ _).mp c_1
    refine lv_iconst (v := 0) hx hb dX7_isInstruction_14 (by decide) ?_
    have hP9 := h.2.1.sub [] rfl
    have hD9 := h.2.2.1.sub (ws' := []) [] (by decide) rfl
    exact W.zret (v := 0) hx hb hr (by decide) (fun t ht hW => ⟨⟨0, (), rfl, (by (repeat' split) <;> first | rfl | contradiction | omega), (by rw [ht]; exact hP9), hD9⟩, h.2.2.2.1.F ht⟩) h.2.2.2.1.2.2 dX7_isInstruction_15 hlocks
  · skip
    have i_1 : ¬ p0.toInt < 0 := fun h9 => c_1 ((fa_lt _ _).mpr h9)
    refine lv_iload_n hx hb dX7_isInstruction_4 rfl (lv_at hl 0 rfl) ?_
    refine lv_bipush (v := 12) hx hb dX7_isInstruction_5 (by decide) ?_
    refine lv_icmp_ge (tgt := 14) hx hb dX7_isInstruction_7 (by decide) (fun c_2 => ?_) (fun c_2 => ?_)
    · skip
      have i_2 : 12 ≤ p0.toInt := (fa_le _ _).mp c_2
      refine lv_iconst (v := 0) hx hb dX7_isInstruction_14 (by decide) ?_
      have hP9 := h.2.1.sub [] rfl
      have hD9 := h.2.2.1.sub (ws' := []) [] (by decide) rfl
      exact W.zret (v := 0) hx hb hr (by decide) (fun t ht hW => ⟨⟨0, (), rfl, (by (repeat' split) <;> first | rfl | contradiction | omega), (by rw [ht]; exact hP9), hD9⟩, h.2.2.2.1.F ht⟩) h.2.2.2.1.2.2 dX7_isInstruction_15 hlocks
    · skip
      have i_2 : ¬ 12 ≤ p0.toInt := fun h9 => c_2 ((fa_le _ _).mpr h9)
      refine lv_iconst (v := 1) hx hb dX7_isInstruction_10 (by decide) ?_
      refine lv_goto (tgt := 15) hx hb dX7_isInstruction_11 (by decide) ?_
      have hP9 := h.2.1.sub [] rfl
      have hD9 := h.2.2.1.sub (ws' := []) [] (by decide) rfl
      exact W.zret (v := 1) hx hb hr (by decide) (fun t ht hW => ⟨⟨1, (), rfl, (by (repeat' split) <;> first | rfl | contradiction | omega), (by rw [ht]; exact hP9), hD9⟩, h.2.2.2.1.F ht⟩) h.2.2.2.1.2.2 dX7_isInstruction_15 hlocks
set_option maxHeartbeats 4000000 in
set_option maxRecDepth 100000 in
theorem c_X8_isRegister (l : Launch) (dC : Nat → ClassId) (dI : Nat → Nat → Nat) (sz : Nat) (p0 : Int32)  : Met l yX8_isRegister wsX8_isRegister ({ frames := 0, cells := 0, slots := 0, locals := 0 } : Room) (va_Pc [.int p0] (KPre (dC, dI) [] [] sz (fun _ => True))) (va_Qi (fun (r : Int32) (u : Unit) => r = if 0 ≤ p0.toInt ∧ p0.toInt < 8 then 1 else 0) (KPost (dC, dI) (va_A [] sz) (fun (u : Unit) => [])) (va_A [] sz)) 0 0 (va_A [] sz) := by
  refine kMet (y := yX8_isRegister) (wsM := wsX8_isRegister) (cc := cX8_isRegister) (maxL := 1) (ret := (some .boolean)) (rm := ({ frames := 0, cells := 0, slots := 0, locals := 0 } : Room)) (mc := 0) (ms := 0) (av := [.int p0]) (D := (dC, dI)) (wc := []) (tc := []) (sz := sz) (X := fun _ => True) (Qc := fun A => va_Qi (fun (r : Int32) (u : Unit) => r = if 0 ≤ p0.toInt ∧ p0.toInt < 8 then 1 else 0) (KPost (dC, dI) A (fun (u : Unit) => [])) A) (by decide) rfl (Nat.le_of_ble_eq_true rfl) ?_
  intro p e s m below meth c A ls E hr hlocks hnm hsz hAe hX h hl
  have hx := E.1
  have hb := E.2.1
  have hl : lv_has ls 1 [(0, .int p0)] := hl
  refine lv_iload_n hx hb dX8_isRegister_0 rfl (lv_at hl 0 rfl) ?_
  refine lv_if_lt (tgt := 14) hx hb dX8_isRegister_1 (by decide) (fun c_1 => ?_) (fun c_1 => ?_)
  · skip
    have i_1 : p0.toInt < 0 := (fa_lt _ _).mp c_1
    refine lv_iconst (v := 0) hx hb dX8_isRegister_14 (by decide) ?_
    have hP9 := h.2.1.sub [] rfl
    have hD9 := h.2.2.1.sub (ws' := []) [] (by decide) rfl
    exact W.zret (v := 0) hx hb hr (by decide) (fun t ht hW => ⟨⟨0, (), rfl, (by (repeat' split) <;> first | rfl | contradiction | omega), (by rw [ht]; exact hP9), hD9⟩, h.2.2.2.1.F ht⟩) h.2.2.2.1.2.2 dX8_isRegister_15 hlocks
  · skip
    have i_1 : ¬ p0.toInt < 0 := fun h9 => c_1 ((fa_lt _ _).mpr h9)
    refine lv_iload_n hx hb dX8_isRegister_4 rfl (lv_at hl 0 rfl) ?_
    refine lv_bipush (v := 8) hx hb dX8_isRegister_5 (by decide) ?_
    refine lv_icmp_ge (tgt := 14) hx hb dX8_isRegister_7 (by decide) (fun c_2 => ?_) (fun c_2 => ?_)
    · skip
      have i_2 : 8 ≤ p0.toInt := (fa_le _ _).mp c_2
      refine lv_iconst (v := 0) hx hb dX8_isRegister_14 (by decide) ?_
      have hP9 := h.2.1.sub [] rfl
      have hD9 := h.2.2.1.sub (ws' := []) [] (by decide) rfl
      exact W.zret (v := 0) hx hb hr (by decide) (fun t ht hW => ⟨⟨0, (), rfl, (by (repeat' split) <;> first | rfl | contradiction | omega), (by rw [ht]; exact hP9), hD9⟩, h.2.2.2.1.F ht⟩) h.2.2.2.1.2.2 dX8_isRegister_15 hlocks
    · skip
      have i_2 : ¬ 8 ≤ p0.toInt := fun h9 => c_2 ((fa_le _ _).mpr h9)
      refine lv_iconst (v := 1) hx hb dX8_isRegister_10 (by decide) ?_
      refine lv_goto (tgt := 15) hx hb dX8_isRegister_11 (by decide) ?_
      have hP9 := h.2.1.sub [] rfl
      have hD9 := h.2.2.1.sub (ws' := []) [] (by decide) rfl
      exact W.zret (v := 1) hx hb hr (by decide) (fun t ht hW => ⟨⟨1, (), rfl, (by (repeat' split) <;> first | rfl | contradiction | omega), (by rw [ht]; exact hP9), hD9⟩, h.2.2.2.1.F ht⟩) h.2.2.2.1.2.2 dX8_isRegister_15 hlocks
set_option maxHeartbeats 4000000 in
set_option maxRecDepth 100000 in
theorem c_X8_isInstruction (l : Launch) (dC : Nat → ClassId) (dI : Nat → Nat → Nat) (sz : Nat) (p0 : Int32)  : Met l yX8_isInstruction wsX8_isInstruction ({ frames := 0, cells := 0, slots := 0, locals := 0 } : Room) (va_Pc [.int p0] (KPre (dC, dI) [] [] sz (fun _ => True))) (va_Qi (fun (r : Int32) (u : Unit) => r = if 0 ≤ p0.toInt ∧ p0.toInt < 12 then 1 else 0) (KPost (dC, dI) (va_A [] sz) (fun (u : Unit) => [])) (va_A [] sz)) 0 0 (va_A [] sz) := by
  refine kMet (y := yX8_isInstruction) (wsM := wsX8_isInstruction) (cc := cX8_isInstruction) (maxL := 1) (ret := (some .boolean)) (rm := ({ frames := 0, cells := 0, slots := 0, locals := 0 } : Room)) (mc := 0) (ms := 0) (av := [.int p0]) (D := (dC, dI)) (wc := []) (tc := []) (sz := sz) (X := fun _ => True) (Qc := fun A => va_Qi (fun (r : Int32) (u : Unit) => r = if 0 ≤ p0.toInt ∧ p0.toInt < 12 then 1 else 0) (KPost (dC, dI) A (fun (u : Unit) => [])) A) (by decide) rfl (Nat.le_of_ble_eq_true rfl) ?_
  intro p e s m below meth c A ls E hr hlocks hnm hsz hAe hX h hl
  have hx := E.1
  have hb := E.2.1
  have hl : lv_has ls 1 [(0, .int p0)] := hl
  refine lv_iload_n hx hb dX8_isInstruction_0 rfl (lv_at hl 0 rfl) ?_
  refine lv_if_lt (tgt := 14) hx hb dX8_isInstruction_1 (by decide) (fun c_1 => ?_) (fun c_1 => ?_)
  · skip
    have i_1 : p0.toInt < 0 := (fa_lt _ _).mp c_1
    refine lv_iconst (v := 0) hx hb dX8_isInstruction_14 (by decide) ?_
    have hP9 := h.2.1.sub [] rfl
    have hD9 := h.2.2.1.sub (ws' := []) [] (by decide) rfl
    exact W.zret (v := 0) hx hb hr (by decide) (fun t ht hW => ⟨⟨0, (), rfl, (by (repeat' split) <;> first | rfl | contradiction | omega), (by rw [ht]; exact hP9), hD9⟩, h.2.2.2.1.F ht⟩) h.2.2.2.1.2.2 dX8_isInstruction_15 hlocks
  · skip
    have i_1 : ¬ p0.toInt < 0 := fun h9 => c_1 ((fa_lt _ _).mpr h9)
    refine lv_iload_n hx hb dX8_isInstruction_4 rfl (lv_at hl 0 rfl) ?_
    refine lv_bipush (v := 12) hx hb dX8_isInstruction_5 (by decide) ?_
    refine lv_icmp_ge (tgt := 14) hx hb dX8_isInstruction_7 (by decide) (fun c_2 => ?_) (fun c_2 => ?_)
    · skip
      have i_2 : 12 ≤ p0.toInt := (fa_le _ _).mp c_2
      refine lv_iconst (v := 0) hx hb dX8_isInstruction_14 (by decide) ?_
      have hP9 := h.2.1.sub [] rfl
      have hD9 := h.2.2.1.sub (ws' := []) [] (by decide) rfl
      exact W.zret (v := 0) hx hb hr (by decide) (fun t ht hW => ⟨⟨0, (), rfl, (by (repeat' split) <;> first | rfl | contradiction | omega), (by rw [ht]; exact hP9), hD9⟩, h.2.2.2.1.F ht⟩) h.2.2.2.1.2.2 dX8_isInstruction_15 hlocks
    · skip
      have i_2 : ¬ 12 ≤ p0.toInt := fun h9 => c_2 ((fa_le _ _).mpr h9)
      refine lv_iconst (v := 1) hx hb dX8_isInstruction_10 (by decide) ?_
      refine lv_goto (tgt := 15) hx hb dX8_isInstruction_11 (by decide) ?_
      have hP9 := h.2.1.sub [] rfl
      have hD9 := h.2.2.1.sub (ws' := []) [] (by decide) rfl
      exact W.zret (v := 1) hx hb hr (by decide) (fun t ht hW => ⟨⟨1, (), rfl, (by (repeat' split) <;> first | rfl | contradiction | omega), (by rw [ht]; exact hP9), hD9⟩, h.2.2.2.1.F ht⟩) h.2.2.2.1.2.2 dX8_isInstruction_15 hlocks
set_option maxHeartbeats 4000000 in
set_option maxRecDepth 100000 in
theorem c_X7_isCell (l : Launch) (dC : Nat → ClassId) (dI : Nat → Nat → Nat) (sz : Nat) (p0 : Int64)  : Met l yX7_isCell wsX7_isCell ({ frames := 0, cells := 0, slots := 0, locals := 0 } : Room) (va_Pc [.long p0] (KPre (dC, dI) [] [] sz (fun _ => True))) (va_Qi (fun (r : Int32) (u : Unit) => r = if 0 ≤ p0.toInt ∧ p0.toInt < 64 then 1 else 0) (KPost (dC, dI) (va_A [] sz) (fun (u : Unit) => [])) (va_A [] sz)) 0 0 (va_A [] sz) := by
  refine kMet (y := yX7_isCell) (wsM := wsX7_isCell) (cc := cX7_isCell) (maxL := 2) (ret := (some .boolean)) (rm := ({ frames := 0, cells := 0, slots := 0, locals := 0 } : Room)) (mc := 0) (ms := 0) (av := [.long p0]) (D := (dC, dI)) (wc := []) (tc := []) (sz := sz) (X := fun _ => True) (Qc := fun A => va_Qi (fun (r : Int32) (u : Unit) => r = if 0 ≤ p0.toInt ∧ p0.toInt < 64 then 1 else 0) (KPost (dC, dI) A (fun (u : Unit) => [])) A) (by decide) rfl (Nat.le_of_ble_eq_true rfl) ?_
  intro p e s m below meth c A ls E hr hlocks hnm hsz hAe hX h hl
  have hx := E.1
  have hb := E.2.1
  have hl : lv_has ls 2 [(0, .long p0)] := hl
  refine lv_lload_n hx hb dX7_isCell_0 rfl (lv_at hl 0 rfl) ?_
  refine lv_lconst (v := 0) hx hb dX7_isCell_1 (by decide) ?_
  refine W.lcmp hx hb dX7_isCell_2 ?_
  refine lv_if_lt (tgt := 18) hx hb dX7_isCell_3 (by decide) (fun c_1 => ?_) (fun c_1 => ?_)
  · skip
    have i_1 : p0.toInt < 0 := by have z := klt_p c_1; first | exact z | (simp only [Int32.toInt_toInt64] at z; exact z)
    refine lv_iconst (v := 0) hx hb dX7_isCell_18 (by decide) ?_
    have hP9 := h.2.1.sub [] rfl
    have hD9 := h.2.2.1.sub (ws' := []) [] (by decide) rfl
    exact W.zret (v := 0) hx hb hr (by decide) (fun t ht hW => ⟨⟨0, (), rfl, (by (repeat' split) <;> first | rfl | contradiction | omega), (by rw [ht]; exact hP9), hD9⟩, h.2.2.2.1.F ht⟩) h.2.2.2.1.2.2 dX7_isCell_19 hlocks
  · skip
    have i_1 : ¬ p0.toInt < 0 := by have z := klt_n c_1; first | exact z | (simp only [Int32.toInt_toInt64] at z; exact z)
    refine lv_lload_n hx hb dX7_isCell_6 rfl (lv_at hl 0 rfl) ?_
    refine lv_ldc2 (v := 64) hx hb E.2.2.2.1 (E.2.2.2.2 _ (List.mem_of_getElem? (i := 1) rfl)) dX7_isCell_7 ?_
    refine W.lcmp hx hb dX7_isCell_10 ?_
    refine lv_if_ge (tgt := 18) hx hb dX7_isCell_11 (by decide) (fun c_2 => ?_) (fun c_2 => ?_)
    · skip
      have i_2 : 64 ≤ p0.toInt := by have z := kge_p c_2; first | exact z | (simp only [Int32.toInt_toInt64] at z; exact z)
      refine lv_iconst (v := 0) hx hb dX7_isCell_18 (by decide) ?_
      have hP9 := h.2.1.sub [] rfl
      have hD9 := h.2.2.1.sub (ws' := []) [] (by decide) rfl
      exact W.zret (v := 0) hx hb hr (by decide) (fun t ht hW => ⟨⟨0, (), rfl, (by (repeat' split) <;> first | rfl | contradiction | omega), (by rw [ht]; exact hP9), hD9⟩, h.2.2.2.1.F ht⟩) h.2.2.2.1.2.2 dX7_isCell_19 hlocks
    · skip
      have i_2 : ¬ 64 ≤ p0.toInt := by have z := kge_n c_2; first | exact z | (simp only [Int32.toInt_toInt64] at z; exact z)
      refine lv_iconst (v := 1) hx hb dX7_isCell_14 (by decide) ?_
      refine lv_goto (tgt := 19) hx hb dX7_isCell_15 (by decide) ?_
      have hP9 := h.2.1.sub [] rfl
      have hD9 := h.2.2.1.sub (ws' := []) [] (by decide) rfl
      exact W.zret (v := 1) hx hb hr (by decide) (fun t ht hW => ⟨⟨1, (), rfl, (by (repeat' split) <;> first | rfl | contradiction | omega), (by rw [ht]; exact hP9), hD9⟩, h.2.2.2.1.F ht⟩) h.2.2.2.1.2.2 dX7_isCell_19 hlocks
set_option maxHeartbeats 4000000 in
set_option maxRecDepth 100000 in
theorem c_X8_isCell (l : Launch) (dC : Nat → ClassId) (dI : Nat → Nat → Nat) (sz : Nat) (p0 : Int32)  : Met l yX8_isCell wsX8_isCell ({ frames := 0, cells := 0, slots := 0, locals := 0 } : Room) (va_Pc [.int p0] (KPre (dC, dI) [] [] sz (fun _ => True))) (va_Qi (fun (r : Int32) (u : Unit) => r = if 0 ≤ p0.toInt ∧ p0.toInt < 64 then 1 else 0) (KPost (dC, dI) (va_A [] sz) (fun (u : Unit) => [])) (va_A [] sz)) 0 0 (va_A [] sz) := by
  refine kMet (y := yX8_isCell) (wsM := wsX8_isCell) (cc := cX8_isCell) (maxL := 1) (ret := (some .boolean)) (rm := ({ frames := 0, cells := 0, slots := 0, locals := 0 } : Room)) (mc := 0) (ms := 0) (av := [.int p0]) (D := (dC, dI)) (wc := []) (tc := []) (sz := sz) (X := fun _ => True) (Qc := fun A => va_Qi (fun (r : Int32) (u : Unit) => r = if 0 ≤ p0.toInt ∧ p0.toInt < 64 then 1 else 0) (KPost (dC, dI) A (fun (u : Unit) => [])) A) (by decide) rfl (Nat.le_of_ble_eq_true rfl) ?_
  intro p e s m below meth c A ls E hr hlocks hnm hsz hAe hX h hl
  have hx := E.1
  have hb := E.2.1
  have hl : lv_has ls 1 [(0, .int p0)] := hl
  refine lv_iload_n hx hb dX8_isCell_0 rfl (lv_at hl 0 rfl) ?_
  refine lv_if_lt (tgt := 14) hx hb dX8_isCell_1 (by decide) (fun c_1 => ?_) (fun c_1 => ?_)
  · skip
    have i_1 : p0.toInt < 0 := (fa_lt _ _).mp c_1
    refine lv_iconst (v := 0) hx hb dX8_isCell_14 (by decide) ?_
    have hP9 := h.2.1.sub [] rfl
    have hD9 := h.2.2.1.sub (ws' := []) [] (by decide) rfl
    exact W.zret (v := 0) hx hb hr (by decide) (fun t ht hW => ⟨⟨0, (), rfl, (by (repeat' split) <;> first | rfl | contradiction | omega), (by rw [ht]; exact hP9), hD9⟩, h.2.2.2.1.F ht⟩) h.2.2.2.1.2.2 dX8_isCell_15 hlocks
  · skip
    have i_1 : ¬ p0.toInt < 0 := fun h9 => c_1 ((fa_lt _ _).mpr h9)
    refine lv_iload_n hx hb dX8_isCell_4 rfl (lv_at hl 0 rfl) ?_
    refine lv_bipush (v := 64) hx hb dX8_isCell_5 (by decide) ?_
    refine lv_icmp_ge (tgt := 14) hx hb dX8_isCell_7 (by decide) (fun c_2 => ?_) (fun c_2 => ?_)
    · skip
      have i_2 : 64 ≤ p0.toInt := (fa_le _ _).mp c_2
      refine lv_iconst (v := 0) hx hb dX8_isCell_14 (by decide) ?_
      have hP9 := h.2.1.sub [] rfl
      have hD9 := h.2.2.1.sub (ws' := []) [] (by decide) rfl
      exact W.zret (v := 0) hx hb hr (by decide) (fun t ht hW => ⟨⟨0, (), rfl, (by (repeat' split) <;> first | rfl | contradiction | omega), (by rw [ht]; exact hP9), hD9⟩, h.2.2.2.1.F ht⟩) h.2.2.2.1.2.2 dX8_isCell_15 hlocks
    · skip
      have i_2 : ¬ 64 ≤ p0.toInt := fun h9 => c_2 ((fa_le _ _).mpr h9)
      refine lv_iconst (v := 1) hx hb dX8_isCell_10 (by decide) ?_
      refine lv_goto (tgt := 15) hx hb dX8_isCell_11 (by decide) ?_
      have hP9 := h.2.1.sub [] rfl
      have hD9 := h.2.2.1.sub (ws' := []) [] (by decide) rfl
      exact W.zret (v := 1) hx hb hr (by decide) (fun t ht hW => ⟨⟨1, (), rfl, (by (repeat' split) <;> first | rfl | contradiction | omega), (by rw [ht]; exact hP9), hD9⟩, h.2.2.2.1.F ht⟩) h.2.2.2.1.2.2 dX8_isCell_15 hlocks
set_option maxHeartbeats 4000000 in
set_option maxRecDepth 100000 in
theorem c_X8_isIn (l : Launch) (dC : Nat → ClassId) (dI : Nat → Nat → Nat) (sz : Nat) (p0 : Int64) (p1 : Int64) (p2 : Int64)  : Met l yX8_isIn wsX8_isIn ({ frames := 0, cells := 0, slots := 0, locals := 0 } : Room) (va_Pc [.long p0, .long p1, .long p2] (KPre (dC, dI) [] [] sz (fun _ => True))) (va_Qi (fun (r : Int32) (u : Unit) => r = if p1.toInt ≤ p0.toInt ∧ p0.toInt ≤ p2.toInt then 1 else 0) (KPost (dC, dI) (va_A [] sz) (fun (u : Unit) => [])) (va_A [] sz)) 0 0 (va_A [] sz) := by
  refine kMet (y := yX8_isIn) (wsM := wsX8_isIn) (cc := cX8_isIn) (maxL := 6) (ret := (some .boolean)) (rm := ({ frames := 0, cells := 0, slots := 0, locals := 0 } : Room)) (mc := 0) (ms := 0) (av := [.long p0, .long p1, .long p2]) (D := (dC, dI)) (wc := []) (tc := []) (sz := sz) (X := fun _ => True) (Qc := fun A => va_Qi (fun (r : Int32) (u : Unit) => r = if p1.toInt ≤ p0.toInt ∧ p0.toInt ≤ p2.toInt then 1 else 0) (KPost (dC, dI) A (fun (u : Unit) => [])) A) (by decide) rfl (Nat.le_of_ble_eq_true rfl) ?_
  intro p e s m below meth c A ls E hr hlocks hnm hsz hAe hX h hl
  have hx := E.1
  have hb := E.2.1
  have hl : lv_has ls 6 [(0, .long p0), (2, .long p1), (4, .long p2)] := hl
  refine lv_lload_n hx hb dX8_isIn_0 rfl (lv_at hl 0 rfl) ?_
  refine lv_lload_n hx hb dX8_isIn_1 rfl (lv_at hl 1 rfl) ?_
  refine W.lcmp hx hb dX8_isIn_2 ?_
  refine lv_if_lt (tgt := 17) hx hb dX8_isIn_3 (by decide) (fun c_1 => ?_) (fun c_1 => ?_)
  · skip
    have i_1 : p0.toInt < p1.toInt := by have z := klt_p c_1; first | exact z | (simp only [Int32.toInt_toInt64] at z; exact z)
    refine lv_iconst (v := 0) hx hb dX8_isIn_17 (by decide) ?_
    have hP9 := h.2.1.sub [] rfl
    have hD9 := h.2.2.1.sub (ws' := []) [] (by decide) rfl
    exact W.zret (v := 0) hx hb hr (by decide) (fun t ht hW => ⟨⟨0, (), rfl, (by (repeat' split) <;> first | rfl | contradiction | omega), (by rw [ht]; exact hP9), hD9⟩, h.2.2.2.1.F ht⟩) h.2.2.2.1.2.2 dX8_isIn_18 hlocks
  · skip
    have i_1 : ¬ p0.toInt < p1.toInt := by have z := klt_n c_1; first | exact z | (simp only [Int32.toInt_toInt64] at z; exact z)
    refine lv_lload_n hx hb dX8_isIn_6 rfl (lv_at hl 0 rfl) ?_
    refine lv_lload hx hb dX8_isIn_7 (lv_at hl 2 rfl) ?_
    refine W.lcmp hx hb dX8_isIn_9 ?_
    refine lv_if_gt (tgt := 17) hx hb dX8_isIn_10 (by decide) (fun c_2 => ?_) (fun c_2 => ?_)
    · skip
      have i_2 : p2.toInt < p0.toInt := by have z := kgt_p c_2; first | exact z | (simp only [Int32.toInt_toInt64] at z; exact z)
      refine lv_iconst (v := 0) hx hb dX8_isIn_17 (by decide) ?_
      have hP9 := h.2.1.sub [] rfl
      have hD9 := h.2.2.1.sub (ws' := []) [] (by decide) rfl
      exact W.zret (v := 0) hx hb hr (by decide) (fun t ht hW => ⟨⟨0, (), rfl, (by (repeat' split) <;> first | rfl | contradiction | omega), (by rw [ht]; exact hP9), hD9⟩, h.2.2.2.1.F ht⟩) h.2.2.2.1.2.2 dX8_isIn_18 hlocks
    · skip
      have i_2 : ¬ p2.toInt < p0.toInt := by have z := kgt_n c_2; first | exact z | (simp only [Int32.toInt_toInt64] at z; exact z)
      refine lv_iconst (v := 1) hx hb dX8_isIn_13 (by decide) ?_
      refine lv_goto (tgt := 18) hx hb dX8_isIn_14 (by decide) ?_
      have hP9 := h.2.1.sub [] rfl
      have hD9 := h.2.2.1.sub (ws' := []) [] (by decide) rfl
      exact W.zret (v := 1) hx hb hr (by decide) (fun t ht hW => ⟨⟨1, (), rfl, (by (repeat' split) <;> first | rfl | contradiction | omega), (by rw [ht]; exact hP9), hD9⟩, h.2.2.2.1.F ht⟩) h.2.2.2.1.2.2 dX8_isIn_18 hlocks
set_option maxHeartbeats 4000000 in
set_option maxRecDepth 100000 in
theorem c_X8_hasD (l : Launch) (dC : Nat → ClassId) (dI : Nat → Nat → Nat) (sz : Nat) (p0 : Int32)  : Met l yX8_hasD wsX8_hasD ({ frames := 0, cells := 0, slots := 0, locals := 0 } : Room) (va_Pc [.int p0] (KPre (dC, dI) [] [] sz (fun _ => True))) (va_Qi (fun (r : Int32) (u : Unit) => r = if p0.toInt ≤ 7 then 1 else 0) (KPost (dC, dI) (va_A [] sz) (fun (u : Unit) => [])) (va_A [] sz)) 0 0 (va_A [] sz) := by
  refine kMet (y := yX8_hasD) (wsM := wsX8_hasD) (cc := cX8_hasD) (maxL := 1) (ret := (some .boolean)) (rm := ({ frames := 0, cells := 0, slots := 0, locals := 0 } : Room)) (mc := 0) (ms := 0) (av := [.int p0]) (D := (dC, dI)) (wc := []) (tc := []) (sz := sz) (X := fun _ => True) (Qc := fun A => va_Qi (fun (r : Int32) (u : Unit) => r = if p0.toInt ≤ 7 then 1 else 0) (KPost (dC, dI) A (fun (u : Unit) => [])) A) (by decide) rfl (Nat.le_of_ble_eq_true rfl) ?_
  intro p e s m below meth c A ls E hr hlocks hnm hsz hAe hX h hl
  have hx := E.1
  have hb := E.2.1
  have hl : lv_has ls 1 [(0, .int p0)] := hl
  refine lv_iload_n hx hb dX8_hasD_0 rfl (lv_at hl 0 rfl) ?_
  refine lv_bipush (v := 7) hx hb dX8_hasD_1 (by decide) ?_
  refine lv_icmp_gt (tgt := 10) hx hb dX8_hasD_3 (by decide) (fun c_1 => ?_) (fun c_1 => ?_)
  · skip
    have i_1 : 7 < p0.toInt := (fa_lt _ _).mp c_1
    refine lv_iconst (v := 0) hx hb dX8_hasD_10 (by decide) ?_
    have hP9 := h.2.1.sub [] rfl
    have hD9 := h.2.2.1.sub (ws' := []) [] (by decide) rfl
    exact W.zret (v := 0) hx hb hr (by decide) (fun t ht hW => ⟨⟨0, (), rfl, (by (repeat' split) <;> first | rfl | contradiction | omega), (by rw [ht]; exact hP9), hD9⟩, h.2.2.2.1.F ht⟩) h.2.2.2.1.2.2 dX8_hasD_11 hlocks
  · skip
    have i_1 : ¬ 7 < p0.toInt := fun h9 => c_1 ((fa_lt _ _).mpr h9)
    refine lv_iconst (v := 1) hx hb dX8_hasD_6 (by decide) ?_
    refine lv_goto (tgt := 11) hx hb dX8_hasD_7 (by decide) ?_
    have hP9 := h.2.1.sub [] rfl
    have hD9 := h.2.2.1.sub (ws' := []) [] (by decide) rfl
    exact W.zret (v := 1) hx hb hr (by decide) (fun t ht hW => ⟨⟨1, (), rfl, (by (repeat' split) <;> first | rfl | contradiction | omega), (by rw [ht]; exact hP9), hD9⟩, h.2.2.2.1.F ht⟩) h.2.2.2.1.2.2 dX8_hasD_11 hlocks
set_option maxHeartbeats 4000000 in
set_option maxRecDepth 100000 in
theorem c_X8_hasY (l : Launch) (dC : Nat → ClassId) (dI : Nat → Nat → Nat) (sz : Nat) (p0 : Int32)  : Met l yX8_hasY wsX8_hasY ({ frames := 0, cells := 0, slots := 0, locals := 0 } : Room) (va_Pc [.int p0] (KPre (dC, dI) [] [] sz (fun _ => True))) (va_Qi (fun (r : Int32) (u : Unit) => r = if 2 ≤ p0.toInt ∧ ¬ p0.toInt = 7 then 1 else 0) (KPost (dC, dI) (va_A [] sz) (fun (u : Unit) => [])) (va_A [] sz)) 0 0 (va_A [] sz) := by
  refine kMet (y := yX8_hasY) (wsM := wsX8_hasY) (cc := cX8_hasY) (maxL := 1) (ret := (some .boolean)) (rm := ({ frames := 0, cells := 0, slots := 0, locals := 0 } : Room)) (mc := 0) (ms := 0) (av := [.int p0]) (D := (dC, dI)) (wc := []) (tc := []) (sz := sz) (X := fun _ => True) (Qc := fun A => va_Qi (fun (r : Int32) (u : Unit) => r = if 2 ≤ p0.toInt ∧ ¬ p0.toInt = 7 then 1 else 0) (KPost (dC, dI) A (fun (u : Unit) => [])) A) (by decide) rfl (Nat.le_of_ble_eq_true rfl) ?_
  intro p e s m below meth c A ls E hr hlocks hnm hsz hAe hX h hl
  have hx := E.1
  have hb := E.2.1
  have hl : lv_has ls 1 [(0, .int p0)] := hl
  refine lv_iload_n hx hb dX8_hasY_0 rfl (lv_at hl 0 rfl) ?_
  refine lv_iconst (v := 2) hx hb dX8_hasY_1 (by decide) ?_
  refine lv_icmp_lt (tgt := 15) hx hb dX8_hasY_2 (by decide) (fun c_1 => ?_) (fun c_1 => ?_)
  · skip
    have i_1 : p0.toInt < 2 := (fa_lt _ _).mp c_1
    refine lv_iconst (v := 0) hx hb dX8_hasY_15 (by decide) ?_
    have hP9 := h.2.1.sub [] rfl
    have hD9 := h.2.2.1.sub (ws' := []) [] (by decide) rfl
    exact W.zret (v := 0) hx hb hr (by decide) (fun t ht hW => ⟨⟨0, (), rfl, (by (repeat' split) <;> first | rfl | contradiction | omega), (by rw [ht]; exact hP9), hD9⟩, h.2.2.2.1.F ht⟩) h.2.2.2.1.2.2 dX8_hasY_16 hlocks
  · skip
    have i_1 : ¬ p0.toInt < 2 := fun h9 => c_1 ((fa_lt _ _).mpr h9)
    refine lv_iload_n hx hb dX8_hasY_5 rfl (lv_at hl 0 rfl) ?_
    refine lv_bipush (v := 7) hx hb dX8_hasY_6 (by decide) ?_
    refine lv_icmp_eq (tgt := 15) hx hb dX8_hasY_8 (by decide) (fun c_2 => ?_) (fun c_2 => ?_)
    · skip
      have i_2 : p0.toInt = 7 := (fa_eq _ _).mp c_2
      refine lv_iconst (v := 0) hx hb dX8_hasY_15 (by decide) ?_
      have hP9 := h.2.1.sub [] rfl
      have hD9 := h.2.2.1.sub (ws' := []) [] (by decide) rfl
      exact W.zret (v := 0) hx hb hr (by decide) (fun t ht hW => ⟨⟨0, (), rfl, (by (repeat' split) <;> first | rfl | contradiction | omega), (by rw [ht]; exact hP9), hD9⟩, h.2.2.2.1.F ht⟩) h.2.2.2.1.2.2 dX8_hasY_16 hlocks
    · skip
      have i_2 : ¬ p0.toInt = 7 := fun h9 => c_2 ((fa_eq _ _).mpr h9)
      refine lv_iconst (v := 1) hx hb dX8_hasY_11 (by decide) ?_
      refine lv_goto (tgt := 16) hx hb dX8_hasY_12 (by decide) ?_
      have hP9 := h.2.1.sub [] rfl
      have hD9 := h.2.2.1.sub (ws' := []) [] (by decide) rfl
      exact W.zret (v := 1) hx hb hr (by decide) (fun t ht hW => ⟨⟨1, (), rfl, (by (repeat' split) <;> first | rfl | contradiction | omega), (by rw [ht]; exact hP9), hD9⟩, h.2.2.2.1.F ht⟩) h.2.2.2.1.2.2 dX8_hasY_16 hlocks
set_option maxHeartbeats 4000000 in
set_option maxRecDepth 100000 in
theorem c_X7_slot (l : Launch) (dC : Nat → ClassId) (dI : Nat → Nat → Nat) (sz : Nat) (p0 : Int32) (p1 : Int32)  : Met l yX7_slot wsX7_slot ({ frames := 0, cells := 0, slots := 0, locals := 0 } : Room) (va_Pc [.int p0, .int p1] (KPre (dC, dI) [] [] sz (fun _ => True))) (va_Qi (fun (r : Int32) (u : Unit) => r = p0 * 10 + p1) (KPost (dC, dI) (va_A [] sz) (fun (u : Unit) => [])) (va_A [] sz)) 0 0 (va_A [] sz) := by
  refine kMet (y := yX7_slot) (wsM := wsX7_slot) (cc := cX7_slot) (maxL := 2) (ret := (some .int)) (rm := ({ frames := 0, cells := 0, slots := 0, locals := 0 } : Room)) (mc := 0) (ms := 0) (av := [.int p0, .int p1]) (D := (dC, dI)) (wc := []) (tc := []) (sz := sz) (X := fun _ => True) (Qc := fun A => va_Qi (fun (r : Int32) (u : Unit) => r = p0 * 10 + p1) (KPost (dC, dI) A (fun (u : Unit) => [])) A) (by decide) rfl (Nat.le_of_ble_eq_true rfl) ?_
  intro p e s m below meth c A ls E hr hlocks hnm hsz hAe hX h hl
  have hx := E.1
  have hb := E.2.1
  have hl : lv_has ls 2 [(0, .int p0), (1, .int p1)] := hl
  refine lv_iload_n hx hb dX7_slot_0 rfl (lv_at hl 0 rfl) ?_
  refine lv_bipush (v := 10) hx hb dX7_slot_1 (by decide) ?_
  refine lv_imul hx hb dX7_slot_3 ?_
  refine lv_iload_n hx hb dX7_slot_4 rfl (lv_at hl 1 rfl) ?_
  refine lv_iadd hx hb dX7_slot_5 ?_
  have hP9 := h.2.1.sub [] rfl
  have hD9 := h.2.2.1.sub (ws' := []) [] (by decide) rfl
  exact W.iret (v := (p0 * 10) + p1) hx hb hr (fun t ht hW => ⟨⟨(p0 * 10) + p1, (), rfl, rfl, (by rw [ht]; exact hP9), hD9⟩, h.2.2.2.1.F ht⟩) h.2.2.2.1.2.2 dX7_slot_6 hlocks
set_option maxHeartbeats 4000000 in
set_option maxRecDepth 100000 in
theorem c_X7_refuse (l : Launch) (dC : Nat → ClassId) (dI : Nat → Nat → Nat) (sz : Nat) (o7 : Nat) (o2 : Nat) (o5 : Nat) (o3 : Nat) (o4 : Nat) (o1 : Nat) (o0 : Nat) (a7_6 : Nat) (a7_7 : Nat) (v7_8 : Int32) (v7_9 : Int32) (v7_10 : Int32) (a7_11 : Nat) (v7_12 : Int32) (a7_13 : Nat) (v7_14 : Int32) (a7_15 : Nat) (c7_15 : ClassId) (f7_15 : Nat → Int32) (p0 : Int32) (hp : -8 < p0.toInt ∧ p0.toInt ≤ 0) : Met l yX7_refuse wsX7_refuse ({ frames := 0, cells := 0, slots := 0, locals := 0 } : Room) (va_Pc [.ref o7, .int p0] (KPre (dC, dI) [(o7, .inr (7, [.ref o2, .ref o5, .ref o3, .ref o4, .ref o1, .ref o0, .ref a7_6, .ref a7_7, .int v7_8, .int v7_9, .int v7_10, .ref a7_11, .int v7_12, .ref a7_13, .int v7_14, .ref a7_15])), (a7_15, .inl (c7_15, 8, .inl f7_15))] [(c7_15, .int)] sz (fun _ => True))) (va_Qi (fun (r : Int32) (u : Unit) => r = p0) (KPost (dC, dI) (va_A [(o7, .inr (7, [.ref o2, .ref o5, .ref o3, .ref o4, .ref o1, .ref o0, .ref a7_6, .ref a7_7, .int v7_8, .int v7_9, .int v7_10, .ref a7_11, .int v7_12, .ref a7_13, .int v7_14, .ref a7_15])), (a7_15, .inl (c7_15, 8, .inl f7_15))] sz) (fun (u : Unit) => [(o7, .inr (7, [.ref o2, .ref o5, .ref o3, .ref o4, .ref o1, .ref o0, .ref a7_6, .ref a7_7, .int v7_8, .int v7_9, .int v7_10, .ref a7_11, .int v7_12, .ref a7_13, .int v7_14, .ref a7_15])), (a7_15, .inl (c7_15, 8, .inl (upd f7_15 (-p0).toNatClampNeg (f7_15 (-p0).toNatClampNeg + 1))))])) (va_A [(o7, .inr (7, [.ref o2, .ref o5, .ref o3, .ref o4, .ref o1, .ref o0, .ref a7_6, .ref a7_7, .int v7_8, .int v7_9, .int v7_10, .ref a7_11, .int v7_12, .ref a7_13, .int v7_14, .ref a7_15])), (a7_15, .inl (c7_15, 8, .inl f7_15))] sz)) 0 0 (va_A [(o7, .inr (7, [.ref o2, .ref o5, .ref o3, .ref o4, .ref o1, .ref o0, .ref a7_6, .ref a7_7, .int v7_8, .int v7_9, .int v7_10, .ref a7_11, .int v7_12, .ref a7_13, .int v7_14, .ref a7_15])), (a7_15, .inl (c7_15, 8, .inl f7_15))] sz) := by
  refine kMet (y := yX7_refuse) (wsM := wsX7_refuse) (cc := cX7_refuse) (maxL := 2) (ret := (some .int)) (rm := ({ frames := 0, cells := 0, slots := 0, locals := 0 } : Room)) (mc := 0) (ms := 0) (av := [.ref o7, .int p0]) (D := (dC, dI)) (wc := [(o7, .inr (7, [.ref o2, .ref o5, .ref o3, .ref o4, .ref o1, .ref o0, .ref a7_6, .ref a7_7, .int v7_8, .int v7_9, .int v7_10, .ref a7_11, .int v7_12, .ref a7_13, .int v7_14, .ref a7_15])), (a7_15, .inl (c7_15, 8, .inl f7_15))]) (tc := [(c7_15, .int)]) (sz := sz) (X := fun _ => True) (Qc := fun A => va_Qi (fun (r : Int32) (u : Unit) => r = p0) (KPost (dC, dI) A (fun (u : Unit) => [(o7, .inr (7, [.ref o2, .ref o5, .ref o3, .ref o4, .ref o1, .ref o0, .ref a7_6, .ref a7_7, .int v7_8, .int v7_9, .int v7_10, .ref a7_11, .int v7_12, .ref a7_13, .int v7_14, .ref a7_15])), (a7_15, .inl (c7_15, 8, .inl (upd f7_15 (-p0).toNatClampNeg (f7_15 (-p0).toNatClampNeg + 1))))])) A) (by decide) rfl (Nat.le_of_ble_eq_true rfl) ?_
  intro p e s m below meth c A ls E hr hlocks hnm hsz hAe hX h hl
  have hx := E.1
  have hb := E.2.1
  have hl : lv_has ls 2 [(0, .ref o7), (1, .int p0)] := hl
  refine lv_aload_n hx hb dX7_refuse_0 rfl (lv_at hl 0 rfl) ?_
  refine k_get (v := .ref a7_15) E h (fun w h => List.mem_cons_of_mem _ (List.mem_append_right _ h)) 0 rfl rfl 15 (by decide) (List.mem_of_getElem? (i := 1) rfl) rfl dX7_refuse_1 ?_
  refine lv_iload_n hx hb dX7_refuse_4 rfl (lv_at hl 1 rfl) ?_
  refine lv_ineg hx hb dX7_refuse_5 ?_
  have e_1 : (-p0).toInt = -p0.toInt := by rw [Int32.toInt_neg]; exact fb_bmod (z := -p0.toInt) (by omega) (by omega)
  refine lv_dup2_11 hx hb dX7_refuse_6 rfl rfl ?_
  refine k_iald (v := f7_15 (-p0).toNatClampNeg) E h 1 0 rfl rfl (vp_in_iff.mpr (by omega)) rfl dX7_refuse_7 ?_
  refine lv_iconst (v := 1) hx hb dX7_refuse_8 (by decide) ?_
  refine lv_iadd hx hb dX7_refuse_9 ?_
  refine k_iast (j := (-p0).toNatClampNeg) (ws' := [(o7, .inr (7, [.ref o2, .ref o5, .ref o3, .ref o4, .ref o1, .ref o0, .ref a7_6, .ref a7_7, .int v7_8, .int v7_9, .int v7_10, .ref a7_11, .int v7_12, .ref a7_13, .int v7_14, .ref a7_15])), (a7_15, .inl (c7_15, 8, .inl (upd f7_15 ((-p0).toNatClampNeg) ((f7_15 (-p0).toNatClampNeg) + 1))))]) E h 1 0 rfl rfl (vp_in_iff.mpr (by omega)) rfl rfl dX7_refuse_10 (fun H locs h => ?_)
  refine lv_iload_n hx hb dX7_refuse_11 rfl (lv_at hl 1 rfl) ?_
  have hP9 := h.2.1.sub [0, 1] rfl
  have hD9 := h.2.2.1.sub (ws' := [(o7, .inr (7, [.ref o2, .ref o5, .ref o3, .ref o4, .ref o1, .ref o0, .ref a7_6, .ref a7_7, .int v7_8, .int v7_9, .int v7_10, .ref a7_11, .int v7_12, .ref a7_13, .int v7_14, .ref a7_15])), (a7_15, .inl (c7_15, 8, .inl (upd f7_15 ((-p0).toNatClampNeg) ((f7_15 (-p0).toNatClampNeg) + 1))))]) [0, 1] (by decide) rfl
  exact W.iret (v := p0) hx hb hr (fun t ht hW => ⟨⟨p0, (), rfl, rfl, (by rw [ht]; exact hP9), hD9⟩, h.2.2.2.1.F ht⟩) h.2.2.2.1.2.2 dX7_refuse_12 hlocks
set_option maxHeartbeats 4000000 in
set_option maxRecDepth 100000 in
theorem c_X8_no (l : Launch) (dC : Nat → ClassId) (dI : Nat → Nat → Nat) (sz : Nat) (o8 : Nat) (a8_0 : Nat) (a8_1 : Nat) (a8_2 : Nat) (a8_3 : Nat) (a8_4 : Nat) (a8_5 : Nat) (v8_6 : Int32) (a8_7 : Nat) (a8_8 : Nat) (a8_9 : Nat) (a8_10 : Nat) (a8_11 : Nat) (v8_12 : Int32) (a8_13 : Nat) (a8_14 : Nat) (a8_15 : Nat) (a8_16 : Nat) (a8_17 : Nat) (a8_18 : Nat) (a8_19 : Nat) (a8_20 : Nat) (a8_21 : Nat) (a8_22 : Nat) (a8_23 : Nat) (a8_24 : Nat) (v8_25 : Int32) (v8_26 : Int32) (a8_27 : Nat) (a8_28 : Nat) (a8_29 : Nat) (a8_30 : Nat) (a8_31 : Nat) (v8_32 : Int32) (v8_33 : Int32) (v8_34 : Int32) (v8_35 : Int32) (a8_36 : Nat) (a8_37 : Nat) (v8_38 : Int32) (v8_39 : Int32) (v8_40 : Int32) (a8_41 : Nat) (a8_42 : Nat) (v8_43 : Int32) (c8_13 : ClassId) (f8_13 : Nat → Int32) (p0 : Int32) (hp : -8 < p0.toInt ∧ p0.toInt ≤ 0) : Met l yX8_no wsX8_no ({ frames := 0, cells := 0, slots := 0, locals := 0 } : Room) (va_Pc [.ref o8, .int p0] (KPre (dC, dI) [(o8, .inr (8, [.ref a8_0, .ref a8_1, .ref a8_2, .ref a8_3, .ref a8_4, .ref a8_5, .int v8_6, .ref a8_7, .ref a8_8, .ref a8_9, .ref a8_10, .ref a8_11, .int v8_12, .ref a8_13, .ref a8_14, .ref a8_15, .ref a8_16, .ref a8_17, .ref a8_18, .ref a8_19, .ref a8_20, .ref a8_21, .ref a8_22, .ref a8_23, .ref a8_24, .int v8_25, .int v8_26, .ref a8_27, .ref a8_28, .ref a8_29, .ref a8_30, .ref a8_31, .int v8_32, .int v8_33, .int v8_34, .int v8_35, .ref a8_36, .ref a8_37, .int v8_38, .int v8_39, .int v8_40, .ref a8_41, .ref a8_42, .int v8_43])), (a8_13, .inl (c8_13, 8, .inl f8_13))] [(c8_13, .int)] sz (fun _ => True))) (va_Qi (fun (r : Int32) (u : Unit) => r = p0) (KPost (dC, dI) (va_A [(o8, .inr (8, [.ref a8_0, .ref a8_1, .ref a8_2, .ref a8_3, .ref a8_4, .ref a8_5, .int v8_6, .ref a8_7, .ref a8_8, .ref a8_9, .ref a8_10, .ref a8_11, .int v8_12, .ref a8_13, .ref a8_14, .ref a8_15, .ref a8_16, .ref a8_17, .ref a8_18, .ref a8_19, .ref a8_20, .ref a8_21, .ref a8_22, .ref a8_23, .ref a8_24, .int v8_25, .int v8_26, .ref a8_27, .ref a8_28, .ref a8_29, .ref a8_30, .ref a8_31, .int v8_32, .int v8_33, .int v8_34, .int v8_35, .ref a8_36, .ref a8_37, .int v8_38, .int v8_39, .int v8_40, .ref a8_41, .ref a8_42, .int v8_43])), (a8_13, .inl (c8_13, 8, .inl f8_13))] sz) (fun (u : Unit) => [(o8, .inr (8, [.ref a8_0, .ref a8_1, .ref a8_2, .ref a8_3, .ref a8_4, .ref a8_5, .int v8_6, .ref a8_7, .ref a8_8, .ref a8_9, .ref a8_10, .ref a8_11, .int v8_12, .ref a8_13, .ref a8_14, .ref a8_15, .ref a8_16, .ref a8_17, .ref a8_18, .ref a8_19, .ref a8_20, .ref a8_21, .ref a8_22, .ref a8_23, .ref a8_24, .int v8_25, .int v8_26, .ref a8_27, .ref a8_28, .ref a8_29, .ref a8_30, .ref a8_31, .int v8_32, .int v8_33, .int v8_34, .int v8_35, .ref a8_36, .ref a8_37, .int v8_38, .int v8_39, .int v8_40, .ref a8_41, .ref a8_42, .int v8_43])), (a8_13, .inl (c8_13, 8, .inl (upd f8_13 (-p0).toNatClampNeg (f8_13 (-p0).toNatClampNeg + 1))))])) (va_A [(o8, .inr (8, [.ref a8_0, .ref a8_1, .ref a8_2, .ref a8_3, .ref a8_4, .ref a8_5, .int v8_6, .ref a8_7, .ref a8_8, .ref a8_9, .ref a8_10, .ref a8_11, .int v8_12, .ref a8_13, .ref a8_14, .ref a8_15, .ref a8_16, .ref a8_17, .ref a8_18, .ref a8_19, .ref a8_20, .ref a8_21, .ref a8_22, .ref a8_23, .ref a8_24, .int v8_25, .int v8_26, .ref a8_27, .ref a8_28, .ref a8_29, .ref a8_30, .ref a8_31, .int v8_32, .int v8_33, .int v8_34, .int v8_35, .ref a8_36, .ref a8_37, .int v8_38, .int v8_39, .int v8_40, .ref a8_41, .ref a8_42, .int v8_43])), (a8_13, .inl (c8_13, 8, .inl f8_13))] sz)) 0 0 (va_A [(o8, .inr (8, [.ref a8_0, .ref a8_1, .ref a8_2, .ref a8_3, .ref a8_4, .ref a8_5, .int v8_6, .ref a8_7, .ref a8_8, .ref a8_9, .ref a8_10, .ref a8_11, .int v8_12, .ref a8_13, .ref a8_14, .ref a8_15, .ref a8_16, .ref a8_17, .ref a8_18, .ref a8_19, .ref a8_20, .ref a8_21, .ref a8_22, .ref a8_23, .ref a8_24, .int v8_25, .int v8_26, .ref a8_27, .ref a8_28, .ref a8_29, .ref a8_30, .ref a8_31, .int v8_32, .int v8_33, .int v8_34, .int v8_35, .ref a8_36, .ref a8_37, .int v8_38, .int v8_39, .int v8_40, .ref a8_41, .ref a8_42, .int v8_43])), (a8_13, .inl (c8_13, 8, .inl f8_13))] sz) := by
  refine kMet (y := yX8_no) (wsM := wsX8_no) (cc := cX8_no) (maxL := 2) (ret := (some .int)) (rm := ({ frames := 0, cells := 0, slots := 0, locals := 0 } : Room)) (mc := 0) (ms := 0) (av := [.ref o8, .int p0]) (D := (dC, dI)) (wc := [(o8, .inr (8, [.ref a8_0, .ref a8_1, .ref a8_2, .ref a8_3, .ref a8_4, .ref a8_5, .int v8_6, .ref a8_7, .ref a8_8, .ref a8_9, .ref a8_10, .ref a8_11, .int v8_12, .ref a8_13, .ref a8_14, .ref a8_15, .ref a8_16, .ref a8_17, .ref a8_18, .ref a8_19, .ref a8_20, .ref a8_21, .ref a8_22, .ref a8_23, .ref a8_24, .int v8_25, .int v8_26, .ref a8_27, .ref a8_28, .ref a8_29, .ref a8_30, .ref a8_31, .int v8_32, .int v8_33, .int v8_34, .int v8_35, .ref a8_36, .ref a8_37, .int v8_38, .int v8_39, .int v8_40, .ref a8_41, .ref a8_42, .int v8_43])), (a8_13, .inl (c8_13, 8, .inl f8_13))]) (tc := [(c8_13, .int)]) (sz := sz) (X := fun _ => True) (Qc := fun A => va_Qi (fun (r : Int32) (u : Unit) => r = p0) (KPost (dC, dI) A (fun (u : Unit) => [(o8, .inr (8, [.ref a8_0, .ref a8_1, .ref a8_2, .ref a8_3, .ref a8_4, .ref a8_5, .int v8_6, .ref a8_7, .ref a8_8, .ref a8_9, .ref a8_10, .ref a8_11, .int v8_12, .ref a8_13, .ref a8_14, .ref a8_15, .ref a8_16, .ref a8_17, .ref a8_18, .ref a8_19, .ref a8_20, .ref a8_21, .ref a8_22, .ref a8_23, .ref a8_24, .int v8_25, .int v8_26, .ref a8_27, .ref a8_28, .ref a8_29, .ref a8_30, .ref a8_31, .int v8_32, .int v8_33, .int v8_34, .int v8_35, .ref a8_36, .ref a8_37, .int v8_38, .int v8_39, .int v8_40, .ref a8_41, .ref a8_42, .int v8_43])), (a8_13, .inl (c8_13, 8, .inl (upd f8_13 (-p0).toNatClampNeg (f8_13 (-p0).toNatClampNeg + 1))))])) A) (by decide) rfl (Nat.le_of_ble_eq_true rfl) ?_
  intro p e s m below meth c A ls E hr hlocks hnm hsz hAe hX h hl
  have hx := E.1
  have hb := E.2.1
  have hl : lv_has ls 2 [(0, .ref o8), (1, .int p0)] := hl
  refine lv_aload_n hx hb dX8_no_0 rfl (lv_at hl 0 rfl) ?_
  refine k_get (v := .ref a8_13) E h (fun w h => List.mem_cons_of_mem _ (List.mem_append_right _ h)) 0 rfl rfl 13 (by decide) (List.mem_of_getElem? (i := 1) rfl) rfl dX8_no_1 ?_
  refine lv_iload_n hx hb dX8_no_4 rfl (lv_at hl 1 rfl) ?_
  refine lv_ineg hx hb dX8_no_5 ?_
  have e_1 : (-p0).toInt = -p0.toInt := by rw [Int32.toInt_neg]; exact fb_bmod (z := -p0.toInt) (by omega) (by omega)
  refine lv_dup2_11 hx hb dX8_no_6 rfl rfl ?_
  refine k_iald (v := f8_13 (-p0).toNatClampNeg) E h 1 0 rfl rfl (vp_in_iff.mpr (by omega)) rfl dX8_no_7 ?_
  refine lv_iconst (v := 1) hx hb dX8_no_8 (by decide) ?_
  refine lv_iadd hx hb dX8_no_9 ?_
  refine k_iast (j := (-p0).toNatClampNeg) (ws' := [(o8, .inr (8, [.ref a8_0, .ref a8_1, .ref a8_2, .ref a8_3, .ref a8_4, .ref a8_5, .int v8_6, .ref a8_7, .ref a8_8, .ref a8_9, .ref a8_10, .ref a8_11, .int v8_12, .ref a8_13, .ref a8_14, .ref a8_15, .ref a8_16, .ref a8_17, .ref a8_18, .ref a8_19, .ref a8_20, .ref a8_21, .ref a8_22, .ref a8_23, .ref a8_24, .int v8_25, .int v8_26, .ref a8_27, .ref a8_28, .ref a8_29, .ref a8_30, .ref a8_31, .int v8_32, .int v8_33, .int v8_34, .int v8_35, .ref a8_36, .ref a8_37, .int v8_38, .int v8_39, .int v8_40, .ref a8_41, .ref a8_42, .int v8_43])), (a8_13, .inl (c8_13, 8, .inl (upd f8_13 ((-p0).toNatClampNeg) ((f8_13 (-p0).toNatClampNeg) + 1))))]) E h 1 0 rfl rfl (vp_in_iff.mpr (by omega)) rfl rfl dX8_no_10 (fun H locs h => ?_)
  refine lv_iload_n hx hb dX8_no_11 rfl (lv_at hl 1 rfl) ?_
  have hP9 := h.2.1.sub [0, 1] rfl
  have hD9 := h.2.2.1.sub (ws' := [(o8, .inr (8, [.ref a8_0, .ref a8_1, .ref a8_2, .ref a8_3, .ref a8_4, .ref a8_5, .int v8_6, .ref a8_7, .ref a8_8, .ref a8_9, .ref a8_10, .ref a8_11, .int v8_12, .ref a8_13, .ref a8_14, .ref a8_15, .ref a8_16, .ref a8_17, .ref a8_18, .ref a8_19, .ref a8_20, .ref a8_21, .ref a8_22, .ref a8_23, .ref a8_24, .int v8_25, .int v8_26, .ref a8_27, .ref a8_28, .ref a8_29, .ref a8_30, .ref a8_31, .int v8_32, .int v8_33, .int v8_34, .int v8_35, .ref a8_36, .ref a8_37, .int v8_38, .int v8_39, .int v8_40, .ref a8_41, .ref a8_42, .int v8_43])), (a8_13, .inl (c8_13, 8, .inl (upd f8_13 ((-p0).toNatClampNeg) ((f8_13 (-p0).toNatClampNeg) + 1))))]) [0, 1] (by decide) rfl
  exact W.iret (v := p0) hx hb hr (fun t ht hW => ⟨⟨p0, (), rfl, rfl, (by rw [ht]; exact hP9), hD9⟩, h.2.2.2.1.F ht⟩) h.2.2.2.1.2.2 dX8_no_12 hlocks
set_option maxHeartbeats 4000000 in
set_option maxRecDepth 100000 in
theorem c_X2_cutFor (l : Launch) (dC : Nat → ClassId) (dI : Nat → Nat → Nat) (sz : Nat) (o2 : Nat) (a2_0 : Nat) (a2_1 : Nat) (a2_2 : Nat) (a2_3 : Nat) (v2_4 : Int32) (c2_0 : ClassId) (f2_0 : Nat → Int32) (p0 : Int32) (p1 : Int64) (hp : 0 ≤ p0.toInt ∧ p0.toInt < 74) : Met l yX2_cutFor wsX2_cutFor ({ frames := 0, cells := 0, slots := 0, locals := 0 } : Room) (va_Pc [.ref o2, .int p0, .long p1] (KPre (dC, dI) [(o2, .inr (2, [.ref a2_0, .ref a2_1, .ref a2_2, .ref a2_3, .int v2_4])), (a2_0, .inl (c2_0, 8, .inl f2_0))] [(c2_0, .int)] sz (fun _ => True))) (va_Ql (fun (r : Int64) (u : Unit) => r = kput f2_0 p0 p1) (KPost (dC, dI) (va_A [(o2, .inr (2, [.ref a2_0, .ref a2_1, .ref a2_2, .ref a2_3, .int v2_4])), (a2_0, .inl (c2_0, 8, .inl f2_0))] sz) (fun (u : Unit) => [(o2, .inr (2, [.ref a2_0, .ref a2_1, .ref a2_2, .ref a2_3, .int v2_4])), (a2_0, .inl (c2_0, 8, .inl f2_0))])) (va_A [(o2, .inr (2, [.ref a2_0, .ref a2_1, .ref a2_2, .ref a2_3, .int v2_4])), (a2_0, .inl (c2_0, 8, .inl f2_0))] sz)) 0 0 (va_A [(o2, .inr (2, [.ref a2_0, .ref a2_1, .ref a2_2, .ref a2_3, .int v2_4])), (a2_0, .inl (c2_0, 8, .inl f2_0))] sz) := by
  refine kMet (y := yX2_cutFor) (wsM := wsX2_cutFor) (cc := cX2_cutFor) (maxL := 5) (ret := (some .long)) (rm := ({ frames := 0, cells := 0, slots := 0, locals := 0 } : Room)) (mc := 0) (ms := 0) (av := [.ref o2, .int p0, .long p1]) (D := (dC, dI)) (wc := [(o2, .inr (2, [.ref a2_0, .ref a2_1, .ref a2_2, .ref a2_3, .int v2_4])), (a2_0, .inl (c2_0, 8, .inl f2_0))]) (tc := [(c2_0, .int)]) (sz := sz) (X := fun _ => True) (Qc := fun A => va_Ql (fun (r : Int64) (u : Unit) => r = kput f2_0 p0 p1) (KPost (dC, dI) A (fun (u : Unit) => [(o2, .inr (2, [.ref a2_0, .ref a2_1, .ref a2_2, .ref a2_3, .int v2_4])), (a2_0, .inl (c2_0, 8, .inl f2_0))])) A) (by decide) rfl (Nat.le_of_ble_eq_true rfl) ?_
  intro p e s m below meth c A ls E hr hlocks hnm hsz hAe hX h hl
  have hx := E.1
  have hb := E.2.1
  have hl : lv_has ls 5 [(0, .ref o2), (1, .int p0), (2, .long p1)] := hl
  refine lv_iload_n hx hb dX2_cutFor_0 rfl (lv_at hl 1 rfl) ?_
  refine lv_bipush (v := 8) hx hb dX2_cutFor_1 (by decide) ?_
  refine lv_icmp_ge (tgt := 15) hx hb dX2_cutFor_3 (by decide) (fun c_1 => ?_) (fun c_1 => ?_)
  · skip
    have i_1 : 8 ≤ p0.toInt := (fa_le _ _).mp c_1
    refine lv_bipush (v := 32) hx hb dX2_cutFor_15 (by decide) ?_
    refine lv_istore (lv' := [(4, .int 32), (0, .ref o2), (1, .int p0), (2, .long p1)]) hx hb dX2_cutFor_17 hl (by decide) rfl (fun ls hl => ?_)
    refine lv_lload_n hx hb dX2_cutFor_19 rfl (lv_at hl 3 rfl) ?_
    refine lv_lconst (v := 1) hx hb dX2_cutFor_20 (by decide) ?_
    refine lv_iload hx hb dX2_cutFor_21 (lv_at hl 0 rfl) ?_
    refine lv_lshl (v := 4294967296) hx hb dX2_cutFor_23 (by decide) ?_
    refine lv_lconst (v := 1) hx hb dX2_cutFor_24 (by decide) ?_
    refine lv_lsub hx hb dX2_cutFor_25 ?_
    refine k_topl (y := 4294967295) (by decide) ?_
    refine lv_land hx hb dX2_cutFor_26 ?_
    have hP9 := h.2.1.sub [0, 1] rfl
    have hD9 := h.2.2.1.sub (ws' := [(o2, .inr (2, [.ref a2_0, .ref a2_1, .ref a2_2, .ref a2_3, .int v2_4])), (a2_0, .inl (c2_0, 8, .inl f2_0))]) [0, 1] (by decide) rfl
    exact W.lret (v := p1 &&& 4294967295) hx hb hr (fun t ht hW => ⟨⟨p1 &&& 4294967295, (), rfl, (by unfold kput; split <;> first | rfl | omega), (by rw [ht]; exact hP9), hD9⟩, h.2.2.2.1.F ht⟩) h.2.2.2.1.2.2 dX2_cutFor_27 hlocks
  · skip
    have i_1 : ¬ 8 ≤ p0.toInt := fun h9 => c_1 ((fa_le _ _).mpr h9)
    refine lv_aload_n hx hb dX2_cutFor_6 rfl (lv_at hl 0 rfl) ?_
    refine k_get (v := .ref a2_0) E h (fun w h => List.mem_cons_of_mem _ (List.mem_append_right _ h)) 0 rfl rfl 0 (by decide) (List.mem_of_getElem? (i := 1) rfl) rfl dX2_cutFor_7 ?_
    refine lv_iload_n hx hb dX2_cutFor_10 rfl (lv_at hl 1 rfl) ?_
    refine k_iald (v := f2_0 p0.toNatClampNeg) E h 1 0 rfl rfl (vp_in_iff.mpr (by omega)) rfl dX2_cutFor_11 ?_
    refine lv_goto (tgt := 17) hx hb dX2_cutFor_12 (by decide) ?_
    refine lv_istore (lv' := [(4, .int (f2_0 p0.toNatClampNeg)), (0, .ref o2), (1, .int p0), (2, .long p1)]) hx hb dX2_cutFor_17 hl (by decide) rfl (fun ls hl => ?_)
    refine lv_lload_n hx hb dX2_cutFor_19 rfl (lv_at hl 3 rfl) ?_
    refine lv_lconst (v := 1) hx hb dX2_cutFor_20 (by decide) ?_
    refine lv_iload hx hb dX2_cutFor_21 (lv_at hl 0 rfl) ?_
    refine lv_lshl (v := 1 <<< ((f2_0 p0.toNatClampNeg).toInt64 &&& 63)) hx hb dX2_cutFor_23 rfl ?_
    refine lv_lconst (v := 1) hx hb dX2_cutFor_24 (by decide) ?_
    refine lv_lsub hx hb dX2_cutFor_25 ?_
    refine lv_land hx hb dX2_cutFor_26 ?_
    have hP9 := h.2.1.sub [0, 1] rfl
    have hD9 := h.2.2.1.sub (ws' := [(o2, .inr (2, [.ref a2_0, .ref a2_1, .ref a2_2, .ref a2_3, .int v2_4])), (a2_0, .inl (c2_0, 8, .inl f2_0))]) [0, 1] (by decide) rfl
    exact W.lret (v := p1 &&& ((1 <<< ((f2_0 p0.toNatClampNeg).toInt64 &&& 63)) - 1)) hx hb hr (fun t ht hW => ⟨⟨p1 &&& ((1 <<< ((f2_0 p0.toNatClampNeg).toInt64 &&& 63)) - 1), (), rfl, (by unfold kput; split <;> first | rfl | omega), (by rw [ht]; exact hP9), hD9⟩, h.2.2.2.1.F ht⟩) h.2.2.2.1.2.2 dX2_cutFor_27 hlocks
set_option maxHeartbeats 4000000 in
set_option maxRecDepth 100000 in
theorem c_X2_put (l : Launch) (dC : Nat → ClassId) (dI : Nat → Nat → Nat) (sz : Nat) (o2 : Nat) (a2_0 : Nat) (a2_1 : Nat) (a2_2 : Nat) (a2_3 : Nat) (v2_4 : Int32) (c2_0 : ClassId) (f2_0 : Nat → Int32) (c2_1 : ClassId) (f2_1 : Nat → Int64) (p0 : Int32) (p1 : Int64) (hp : 0 ≤ p0.toInt ∧ p0.toInt < 74) : Met l yX2_put wsX2_put ({ frames := 1, cells := 0, slots := 0, locals := 24 } : Room) (va_Pc [.ref o2, .int p0, .long p1] (KPre (dC, dI) [(o2, .inr (2, [.ref a2_0, .ref a2_1, .ref a2_2, .ref a2_3, .int v2_4])), (a2_0, .inl (c2_0, 8, .inl f2_0)), (a2_1, .inl (c2_1, 74, .inr (.inl f2_1)))] [(c2_0, .int), (c2_1, .long)] sz (fun _ => True))) (va_Qi (fun (r : Int32) (u : Unit) => r = if kput f2_0 p0 p1 = f2_1 p0.toNatClampNeg then 0 else 1) (KPost (dC, dI) (va_A [(o2, .inr (2, [.ref a2_0, .ref a2_1, .ref a2_2, .ref a2_3, .int v2_4])), (a2_0, .inl (c2_0, 8, .inl f2_0)), (a2_1, .inl (c2_1, 74, .inr (.inl f2_1)))] sz) (fun (u : Unit) => [(o2, .inr (2, [.ref a2_0, .ref a2_1, .ref a2_2, .ref a2_3, .int v2_4])), (a2_0, .inl (c2_0, 8, .inl f2_0)), (a2_1, .inl (c2_1, 74, .inr (.inl (vp_updL f2_1 p0.toNatClampNeg (kput f2_0 p0 p1)))))])) (va_A [(o2, .inr (2, [.ref a2_0, .ref a2_1, .ref a2_2, .ref a2_3, .int v2_4])), (a2_0, .inl (c2_0, 8, .inl f2_0)), (a2_1, .inl (c2_1, 74, .inr (.inl f2_1)))] sz)) 0 0 (va_A [(o2, .inr (2, [.ref a2_0, .ref a2_1, .ref a2_2, .ref a2_3, .int v2_4])), (a2_0, .inl (c2_0, 8, .inl f2_0)), (a2_1, .inl (c2_1, 74, .inr (.inl f2_1)))] sz) := by
  refine kMet (y := yX2_put) (wsM := wsX2_put) (cc := cX2_put) (maxL := 6) (ret := (some .int)) (rm := ({ frames := 1, cells := 0, slots := 0, locals := 24 } : Room)) (mc := 0) (ms := 0) (av := [.ref o2, .int p0, .long p1]) (D := (dC, dI)) (wc := [(o2, .inr (2, [.ref a2_0, .ref a2_1, .ref a2_2, .ref a2_3, .int v2_4])), (a2_0, .inl (c2_0, 8, .inl f2_0)), (a2_1, .inl (c2_1, 74, .inr (.inl f2_1)))]) (tc := [(c2_0, .int), (c2_1, .long)]) (sz := sz) (X := fun _ => True) (Qc := fun A => va_Qi (fun (r : Int32) (u : Unit) => r = if kput f2_0 p0 p1 = f2_1 p0.toNatClampNeg then 0 else 1) (KPost (dC, dI) A (fun (u : Unit) => [(o2, .inr (2, [.ref a2_0, .ref a2_1, .ref a2_2, .ref a2_3, .int v2_4])), (a2_0, .inl (c2_0, 8, .inl f2_0)), (a2_1, .inl (c2_1, 74, .inr (.inl (vp_updL f2_1 p0.toNatClampNeg (kput f2_0 p0 p1)))))])) A) (by decide) rfl (Nat.le_of_ble_eq_true rfl) ?_
  intro p e s m below meth c A ls E hr hlocks hnm hsz hAe hX h hl
  have hx := E.1
  have hb := E.2.1
  have hl : lv_has ls 6 [(0, .ref o2), (1, .int p0), (2, .long p1)] := hl
  refine lv_aload_n hx hb dX2_put_0 rfl (lv_at hl 0 rfl) ?_
  refine k_get (v := .ref a2_1) E h (fun w h => List.mem_cons_of_mem _ (List.mem_append_right _ h)) 0 rfl rfl 1 (by decide) (List.mem_of_getElem? (i := 1) rfl) rfl dX2_put_1 ?_
  refine lv_iload_n hx hb dX2_put_4 rfl (lv_at hl 1 rfl) ?_
  refine k_lald (v := f2_1 p0.toNatClampNeg) E h 2 1 rfl rfl (vp_in_iff.mpr (by omega)) rfl dX2_put_5 ?_
  refine lv_lstore (lv' := [(4, .long (f2_1 p0.toNatClampNeg)), (0, .ref o2), (1, .int p0), (2, .long p1)]) hx hb dX2_put_6 hl (by decide) rfl (fun ls hl => ?_)
  refine lv_aload_n hx hb dX2_put_8 rfl (lv_at hl 1 rfl) ?_
  refine k_get (v := .ref a2_1) E h (fun w h => List.mem_cons_of_mem _ (List.mem_append_right _ h)) 0 rfl rfl 1 (by decide) (List.mem_of_getElem? (i := 1) rfl) rfl dX2_put_9 ?_
  refine lv_iload_n hx hb dX2_put_12 rfl (lv_at hl 2 rfl) ?_
  refine lv_aload_n hx hb dX2_put_13 rfl (lv_at hl 1 rfl) ?_
  refine lv_iload_n hx hb dX2_put_14 rfl (lv_at hl 2 rfl) ?_
  refine lv_lload_n hx hb dX2_put_15 rfl (lv_at hl 3 rfl) ?_
  refine W.eq (g2 := F0 m 16 ls [.long p1, .int p0, .ref o2, .int p0, .ref a2_1]) rfl ?_
  refine kc_l (wc := [(o2, .inr (2, [.ref a2_0, .ref a2_1, .ref a2_2, .ref a2_3, .int v2_4])), (a2_0, .inl (c2_0, 8, .inl f2_0))]) (wr := [(a2_1, .inl (c2_1, 74, .inr (.inl f2_1)))]) h (va_runV (As := [.int p0, .long p1]) (rest := [.int p0, .ref a2_1]) E (c_X2_cutFor l dC dI _ (o2 := o2) (a2_0 := a2_0) (a2_1 := a2_1) (a2_2 := a2_2) (a2_3 := a2_3) (v2_4 := v2_4) (c2_0 := c2_0) (f2_0 := f2_0) (p0 := p0) (p1 := p1)  (hp := (by first | decide | omega))) (cwV 2 E.2.2.2.2 gX2_put_X2_cutFor rfl rfl rfl (by decide +kernel) ⟨Nat.le_of_ble_eq_true rfl, Nat.le_of_ble_eq_true rfl⟩) (kPreV (q0 := 0) (ci := 2) h KX_true (fun _ _ _ => trivial) [0, 1] [0] (by decide) rfl rfl rfl rfl) rfl rfl hl.1 rfl (lv_room (Nat.le_of_ble_eq_true rfl)) dX2_put_16 ⟨Nat.le_of_ble_eq_true rfl, Nat.le_of_ble_eq_true rfl⟩) [0, 1] [2] rfl rfl (by decide) (by decide) (fun r_1 u_1 H locs hw_1 h => ?_)
  have h : KS (dC, dI) A [(a2_1, .inl (c2_1, 74, .inr (.inl f2_1))), (o2, .inr (2, [.ref a2_0, .ref a2_1, .ref a2_2, .ref a2_3, .int v2_4])), (a2_0, .inl (c2_0, 8, .inl f2_0))] [(c2_0, .int), (c2_1, .long)] s H locs := h
  have hw_1 : r_1 = kput f2_0 p0 p1 := by first | exact hw_1 | (simp only [Int32.toInt_toInt64] at hw_1; exact hw_1)
  refine k_topl (y := kput f2_0 p0 p1) (hw_1) ?_
  refine W.eq (g2 := F0 m 19 ls [.long (kput f2_0 p0 p1), .int p0, .ref a2_1]) rfl ?_
  refine k_last (j := p0.toNatClampNeg) (ws' := [(a2_1, .inl (c2_1, 74, .inr (.inl (vp_updL f2_1 p0.toNatClampNeg (kput f2_0 p0 p1))))), (o2, .inr (2, [.ref a2_0, .ref a2_1, .ref a2_2, .ref a2_3, .int v2_4])), (a2_0, .inl (c2_0, 8, .inl f2_0))]) E h 0 1 rfl rfl (vp_in_iff.mpr (by omega)) rfl rfl dX2_put_19 (fun H locs h => ?_)
  refine lv_aload_n hx hb dX2_put_20 rfl (lv_at hl 1 rfl) ?_
  refine k_get (v := .ref a2_1) E h (fun w h => List.mem_cons_of_mem _ (List.mem_append_right _ h)) 1 rfl rfl 1 (by decide) (List.mem_of_getElem? (i := 1) rfl) rfl dX2_put_21 ?_
  refine lv_iload_n hx hb dX2_put_24 rfl (lv_at hl 2 rfl) ?_
  refine k_lald (v := kput f2_0 p0 p1) E h 0 1 rfl rfl (vp_in_iff.mpr (by omega)) pk_uLs dX2_put_25 ?_
  refine lv_lload hx hb dX2_put_26 (lv_at hl 0 rfl) ?_
  refine W.lcmp hx hb dX2_put_28 ?_
  refine lv_if_ne (tgt := 36) hx hb dX2_put_29 (by decide) (fun c_2 => ?_) (fun c_2 => ?_)
  · skip
    have i_2 : ¬ (kput f2_0 p0 p1).toInt = (f2_1 p0.toNatClampNeg).toInt := by have z := keq_n c_2; first | exact z | (simp only [Int32.toInt_toInt64] at z; exact z)
    have j_2 := keq64_n c_2
    refine lv_iconst (v := 1) hx hb dX2_put_36 (by decide) ?_
    have hP9 := h.2.1.sub [1, 2, 0] rfl
    have hD9 := h.2.2.1.sub (ws' := [(o2, .inr (2, [.ref a2_0, .ref a2_1, .ref a2_2, .ref a2_3, .int v2_4])), (a2_0, .inl (c2_0, 8, .inl f2_0)), (a2_1, .inl (c2_1, 74, .inr (.inl (vp_updL f2_1 p0.toNatClampNeg (kput f2_0 p0 p1)))))]) [1, 2, 0] (by decide) rfl
    exact W.iret (v := 1) hx hb hr (fun t ht hW => ⟨⟨1, (), rfl, (by (repeat' split) <;> first | rfl | contradiction | omega), (by rw [ht]; exact hP9), hD9⟩, h.2.2.2.1.F ht⟩) h.2.2.2.1.2.2 dX2_put_37 hlocks
  · skip
    have i_2 : (kput f2_0 p0 p1).toInt = (f2_1 p0.toNatClampNeg).toInt := by have z := keq_p c_2; first | exact z | (simp only [Int32.toInt_toInt64] at z; exact z)
    have j_2 := keq64_p c_2
    refine lv_iconst (v := 0) hx hb dX2_put_32 (by decide) ?_
    refine lv_goto (tgt := 37) hx hb dX2_put_33 (by decide) ?_
    have hP9 := h.2.1.sub [1, 2, 0] rfl
    have hD9 := h.2.2.1.sub (ws' := [(o2, .inr (2, [.ref a2_0, .ref a2_1, .ref a2_2, .ref a2_3, .int v2_4])), (a2_0, .inl (c2_0, 8, .inl f2_0)), (a2_1, .inl (c2_1, 74, .inr (.inl (vp_updL f2_1 p0.toNatClampNeg (kput f2_0 p0 p1)))))]) [1, 2, 0] (by decide) rfl
    exact W.iret (v := 0) hx hb hr (fun t ht hW => ⟨⟨0, (), rfl, (by (repeat' split) <;> first | rfl | contradiction | omega), (by rw [ht]; exact hP9), hD9⟩, h.2.2.2.1.F ht⟩) h.2.2.2.1.2.2 dX2_put_37 hlocks
set_option maxHeartbeats 4000000 in
set_option maxRecDepth 100000 in
theorem c_X2_forgetOlds (l : Launch) (dC : Nat → ClassId) (dI : Nat → Nat → Nat) (sz : Nat) (o2 : Nat) (a2_0 : Nat) (a2_1 : Nat) (a2_2 : Nat) (a2_3 : Nat) (v2_4 : Int32)  : Met l yX2_forgetOlds wsX2_forgetOlds ({ frames := 0, cells := 0, slots := 0, locals := 0 } : Room) (va_Pc [.ref o2] (KPre (dC, dI) [(o2, .inr (2, [.ref a2_0, .ref a2_1, .ref a2_2, .ref a2_3, .int v2_4]))] [] sz (fun _ => True))) (va_Qv (fun (u : Unit) => True) (KPost (dC, dI) (va_A [(o2, .inr (2, [.ref a2_0, .ref a2_1, .ref a2_2, .ref a2_3, .int v2_4]))] sz) (fun (u : Unit) => [(o2, .inr (2, [.ref a2_0, .ref a2_1, .ref a2_2, .ref a2_3, .int 0]))])) (va_A [(o2, .inr (2, [.ref a2_0, .ref a2_1, .ref a2_2, .ref a2_3, .int v2_4]))] sz)) 0 0 (va_A [(o2, .inr (2, [.ref a2_0, .ref a2_1, .ref a2_2, .ref a2_3, .int v2_4]))] sz) := by
  refine kMet (y := yX2_forgetOlds) (wsM := wsX2_forgetOlds) (cc := cX2_forgetOlds) (maxL := 1) (ret := none) (rm := ({ frames := 0, cells := 0, slots := 0, locals := 0 } : Room)) (mc := 0) (ms := 0) (av := [.ref o2]) (D := (dC, dI)) (wc := [(o2, .inr (2, [.ref a2_0, .ref a2_1, .ref a2_2, .ref a2_3, .int v2_4]))]) (tc := []) (sz := sz) (X := fun _ => True) (Qc := fun A => va_Qv (fun (u : Unit) => True) (KPost (dC, dI) A (fun (u : Unit) => [(o2, .inr (2, [.ref a2_0, .ref a2_1, .ref a2_2, .ref a2_3, .int 0]))])) A) (by decide) rfl (Nat.le_of_ble_eq_true rfl) ?_
  intro p e s m below meth c A ls E hr hlocks hnm hsz hAe hX h hl
  have hx := E.1
  have hb := E.2.1
  have hl : lv_has ls 1 [(0, .ref o2)] := hl
  refine lv_aload_n hx hb dX2_forgetOlds_0 rfl (lv_at hl 0 rfl) ?_
  refine lv_iconst (v := 0) hx hb dX2_forgetOlds_1 (by decide) ?_
  refine k_put (v := .int 0) (ty := .int) (ws' := [(o2, .inr (2, [.ref a2_0, .ref a2_1, .ref a2_2, .ref a2_3, .int 0]))]) E h (fun w h => List.mem_cons_of_mem _ (List.mem_append_right _ h)) tyX2_ok nmX2 0 rfl rfl 4 (by decide) (List.mem_of_getElem? (i := 1) rfl) rfl (by decide +kernel) rfl rfl (Nat.le_of_ble_eq_true rfl) rfl dX2_forgetOlds_2 (fun H locs h => ?_)
  have hP9 := h.2.1.sub [0] rfl
  have hD9 := h.2.2.1.sub (ws' := [(o2, .inr (2, [.ref a2_0, .ref a2_1, .ref a2_2, .ref a2_3, .int 0]))]) [0] (by decide) rfl
  exact W.vret hx hb hr (fun t ht hW => ⟨⟨(), rfl, trivial, (by rw [ht]; exact hP9), hD9⟩, h.2.2.2.1.F ht⟩) h.2.2.2.1.2.2 dX2_forgetOlds_5 hlocks
set_option maxHeartbeats 4000000 in
set_option maxRecDepth 100000 in
theorem c_X2_goBack0 (l : Launch) (dC : Nat → ClassId) (dI : Nat → Nat → Nat) (sz : Nat) (o2 : Nat) (a2_0 : Nat) (a2_1 : Nat) (a2_2 : Nat) (a2_3 : Nat)  : Met l yX2_goBack wsX2_goBack ({ frames := 0, cells := 0, slots := 0, locals := 0 } : Room) (va_Pc [.ref o2] (KPre (dC, dI) [(o2, .inr (2, [.ref a2_0, .ref a2_1, .ref a2_2, .ref a2_3, .int 0]))] [] sz (fun _ => True))) (va_Qv (fun (u : Unit) => True) (KPost (dC, dI) (va_A [(o2, .inr (2, [.ref a2_0, .ref a2_1, .ref a2_2, .ref a2_3, .int 0]))] sz) (fun (u : Unit) => [(o2, .inr (2, [.ref a2_0, .ref a2_1, .ref a2_2, .ref a2_3, .int 0]))])) (va_A [(o2, .inr (2, [.ref a2_0, .ref a2_1, .ref a2_2, .ref a2_3, .int 0]))] sz)) 0 0 (va_A [(o2, .inr (2, [.ref a2_0, .ref a2_1, .ref a2_2, .ref a2_3, .int 0]))] sz) := by
  refine kMet (y := yX2_goBack) (wsM := wsX2_goBack) (cc := cX2_goBack) (maxL := 2) (ret := none) (rm := ({ frames := 0, cells := 0, slots := 0, locals := 0 } : Room)) (mc := 0) (ms := 0) (av := [.ref o2]) (D := (dC, dI)) (wc := [(o2, .inr (2, [.ref a2_0, .ref a2_1, .ref a2_2, .ref a2_3, .int 0]))]) (tc := []) (sz := sz) (X := fun _ => True) (Qc := fun A => va_Qv (fun (u : Unit) => True) (KPost (dC, dI) A (fun (u : Unit) => [(o2, .inr (2, [.ref a2_0, .ref a2_1, .ref a2_2, .ref a2_3, .int 0]))])) A) (by decide) rfl (Nat.le_of_ble_eq_true rfl) ?_
  intro p e s m below meth c A ls E hr hlocks hnm hsz hAe hX h hl
  have hx := E.1
  have hb := E.2.1
  have hl : lv_has ls 2 [(0, .ref o2)] := hl
  refine lv_aload_n hx hb dX2_goBack_0 rfl (lv_at hl 0 rfl) ?_
  refine k_get (v := .int 0) E h (fun w h => List.mem_cons_of_mem _ (List.mem_append_right _ h)) 0 rfl rfl 4 (by decide) (List.mem_of_getElem? (i := 1) rfl) rfl dX2_goBack_1 ?_
  refine lv_iconst (v := 1) hx hb dX2_goBack_4 (by decide) ?_
  refine lv_isub hx hb dX2_goBack_5 ?_
  refine k_topi (y := (-1)) (by decide) ?_
  refine lv_istore_n (lv' := [(1, .int (-1)), (0, .ref o2)]) hx hb dX2_goBack_6 rfl hl (by decide) rfl (fun ls hl => ?_)
  refine lv_iload_n hx hb dX2_goBack_7 rfl (lv_at hl 0 rfl) ?_
  refine lv_if_lt (tgt := 34) hx hb dX2_goBack_8 (by decide) (fun _ => ?_) (fun c_1 => absurd (by decide) c_1)
  refine lv_aload_n hx hb dX2_goBack_34 rfl (lv_at hl 1 rfl) ?_
  refine lv_iconst (v := 0) hx hb dX2_goBack_35 (by decide) ?_
  refine k_put (v := .int 0) (ty := .int) (ws' := [(o2, .inr (2, [.ref a2_0, .ref a2_1, .ref a2_2, .ref a2_3, .int 0]))]) E h (fun w h => List.mem_cons_of_mem _ (List.mem_append_right _ h)) tyX2_ok nmX2 0 rfl rfl 4 (by decide) (List.mem_of_getElem? (i := 1) rfl) rfl (by decide +kernel) rfl rfl (Nat.le_of_ble_eq_true rfl) rfl dX2_goBack_36 (fun H locs h => ?_)
  have hP9 := h.2.1.sub [0] rfl
  have hD9 := h.2.2.1.sub (ws' := [(o2, .inr (2, [.ref a2_0, .ref a2_1, .ref a2_2, .ref a2_3, .int 0]))]) [0] (by decide) rfl
  exact W.vret hx hb hr (fun t ht hW => ⟨⟨(), rfl, trivial, (by rw [ht]; exact hP9), hD9⟩, h.2.2.2.1.F ht⟩) h.2.2.2.1.2.2 dX2_goBack_39 hlocks
set_option maxHeartbeats 4000000 in
set_option maxRecDepth 100000 in
theorem c_X8_cut (l : Launch) (dC : Nat → ClassId) (dI : Nat → Nat → Nat) (sz : Nat) (o8 : Nat) (a8_0 : Nat) (a8_1 : Nat) (a8_2 : Nat) (a8_3 : Nat) (a8_4 : Nat) (a8_5 : Nat) (v8_6 : Int32) (a8_7 : Nat) (a8_8 : Nat) (a8_9 : Nat) (a8_10 : Nat) (a8_11 : Nat) (v8_12 : Int32) (a8_13 : Nat) (a8_14 : Nat) (a8_15 : Nat) (a8_16 : Nat) (a8_17 : Nat) (a8_18 : Nat) (a8_19 : Nat) (a8_20 : Nat) (a8_21 : Nat) (a8_22 : Nat) (a8_23 : Nat) (a8_24 : Nat) (v8_25 : Int32) (v8_26 : Int32) (a8_27 : Nat) (a8_28 : Nat) (a8_29 : Nat) (a8_30 : Nat) (a8_31 : Nat) (v8_32 : Int32) (v8_33 : Int32) (v8_34 : Int32) (v8_35 : Int32) (a8_36 : Nat) (a8_37 : Nat) (v8_38 : Int32) (v8_39 : Int32) (v8_40 : Int32) (a8_41 : Nat) (a8_42 : Nat) (v8_43 : Int32) (c8_5 : ClassId) (f8_5 : Nat → Int32) (p0 : Int32) (p1 : Int64) (hp : 0 ≤ p0.toInt ∧ p0.toInt < 8) : Met l yX8_cut wsX8_cut ({ frames := 0, cells := 0, slots := 0, locals := 0 } : Room) (va_Pc [.ref o8, .int p0, .long p1] (KPre (dC, dI) [(o8, .inr (8, [.ref a8_0, .ref a8_1, .ref a8_2, .ref a8_3, .ref a8_4, .ref a8_5, .int v8_6, .ref a8_7, .ref a8_8, .ref a8_9, .ref a8_10, .ref a8_11, .int v8_12, .ref a8_13, .ref a8_14, .ref a8_15, .ref a8_16, .ref a8_17, .ref a8_18, .ref a8_19, .ref a8_20, .ref a8_21, .ref a8_22, .ref a8_23, .ref a8_24, .int v8_25, .int v8_26, .ref a8_27, .ref a8_28, .ref a8_29, .ref a8_30, .ref a8_31, .int v8_32, .int v8_33, .int v8_34, .int v8_35, .ref a8_36, .ref a8_37, .int v8_38, .int v8_39, .int v8_40, .ref a8_41, .ref a8_42, .int v8_43])), (a8_5, .inl (c8_5, 8, .inl f8_5))] [(c8_5, .int)] sz (fun _ => True))) (va_Ql (fun (r : Int64) (u : Unit) => r = kcut (f8_5 p0.toNatClampNeg) p1) (KPost (dC, dI) (va_A [(o8, .inr (8, [.ref a8_0, .ref a8_1, .ref a8_2, .ref a8_3, .ref a8_4, .ref a8_5, .int v8_6, .ref a8_7, .ref a8_8, .ref a8_9, .ref a8_10, .ref a8_11, .int v8_12, .ref a8_13, .ref a8_14, .ref a8_15, .ref a8_16, .ref a8_17, .ref a8_18, .ref a8_19, .ref a8_20, .ref a8_21, .ref a8_22, .ref a8_23, .ref a8_24, .int v8_25, .int v8_26, .ref a8_27, .ref a8_28, .ref a8_29, .ref a8_30, .ref a8_31, .int v8_32, .int v8_33, .int v8_34, .int v8_35, .ref a8_36, .ref a8_37, .int v8_38, .int v8_39, .int v8_40, .ref a8_41, .ref a8_42, .int v8_43])), (a8_5, .inl (c8_5, 8, .inl f8_5))] sz) (fun (u : Unit) => [(o8, .inr (8, [.ref a8_0, .ref a8_1, .ref a8_2, .ref a8_3, .ref a8_4, .ref a8_5, .int v8_6, .ref a8_7, .ref a8_8, .ref a8_9, .ref a8_10, .ref a8_11, .int v8_12, .ref a8_13, .ref a8_14, .ref a8_15, .ref a8_16, .ref a8_17, .ref a8_18, .ref a8_19, .ref a8_20, .ref a8_21, .ref a8_22, .ref a8_23, .ref a8_24, .int v8_25, .int v8_26, .ref a8_27, .ref a8_28, .ref a8_29, .ref a8_30, .ref a8_31, .int v8_32, .int v8_33, .int v8_34, .int v8_35, .ref a8_36, .ref a8_37, .int v8_38, .int v8_39, .int v8_40, .ref a8_41, .ref a8_42, .int v8_43])), (a8_5, .inl (c8_5, 8, .inl f8_5))])) (va_A [(o8, .inr (8, [.ref a8_0, .ref a8_1, .ref a8_2, .ref a8_3, .ref a8_4, .ref a8_5, .int v8_6, .ref a8_7, .ref a8_8, .ref a8_9, .ref a8_10, .ref a8_11, .int v8_12, .ref a8_13, .ref a8_14, .ref a8_15, .ref a8_16, .ref a8_17, .ref a8_18, .ref a8_19, .ref a8_20, .ref a8_21, .ref a8_22, .ref a8_23, .ref a8_24, .int v8_25, .int v8_26, .ref a8_27, .ref a8_28, .ref a8_29, .ref a8_30, .ref a8_31, .int v8_32, .int v8_33, .int v8_34, .int v8_35, .ref a8_36, .ref a8_37, .int v8_38, .int v8_39, .int v8_40, .ref a8_41, .ref a8_42, .int v8_43])), (a8_5, .inl (c8_5, 8, .inl f8_5))] sz)) 0 0 (va_A [(o8, .inr (8, [.ref a8_0, .ref a8_1, .ref a8_2, .ref a8_3, .ref a8_4, .ref a8_5, .int v8_6, .ref a8_7, .ref a8_8, .ref a8_9, .ref a8_10, .ref a8_11, .int v8_12, .ref a8_13, .ref a8_14, .ref a8_15, .ref a8_16, .ref a8_17, .ref a8_18, .ref a8_19, .ref a8_20, .ref a8_21, .ref a8_22, .ref a8_23, .ref a8_24, .int v8_25, .int v8_26, .ref a8_27, .ref a8_28, .ref a8_29, .ref a8_30, .ref a8_31, .int v8_32, .int v8_33, .int v8_34, .int v8_35, .ref a8_36, .ref a8_37, .int v8_38, .int v8_39, .int v8_40, .ref a8_41, .ref a8_42, .int v8_43])), (a8_5, .inl (c8_5, 8, .inl f8_5))] sz) := by
  refine kMet (y := yX8_cut) (wsM := wsX8_cut) (cc := cX8_cut) (maxL := 4) (ret := (some .long)) (rm := ({ frames := 0, cells := 0, slots := 0, locals := 0 } : Room)) (mc := 0) (ms := 0) (av := [.ref o8, .int p0, .long p1]) (D := (dC, dI)) (wc := [(o8, .inr (8, [.ref a8_0, .ref a8_1, .ref a8_2, .ref a8_3, .ref a8_4, .ref a8_5, .int v8_6, .ref a8_7, .ref a8_8, .ref a8_9, .ref a8_10, .ref a8_11, .int v8_12, .ref a8_13, .ref a8_14, .ref a8_15, .ref a8_16, .ref a8_17, .ref a8_18, .ref a8_19, .ref a8_20, .ref a8_21, .ref a8_22, .ref a8_23, .ref a8_24, .int v8_25, .int v8_26, .ref a8_27, .ref a8_28, .ref a8_29, .ref a8_30, .ref a8_31, .int v8_32, .int v8_33, .int v8_34, .int v8_35, .ref a8_36, .ref a8_37, .int v8_38, .int v8_39, .int v8_40, .ref a8_41, .ref a8_42, .int v8_43])), (a8_5, .inl (c8_5, 8, .inl f8_5))]) (tc := [(c8_5, .int)]) (sz := sz) (X := fun _ => True) (Qc := fun A => va_Ql (fun (r : Int64) (u : Unit) => r = kcut (f8_5 p0.toNatClampNeg) p1) (KPost (dC, dI) A (fun (u : Unit) => [(o8, .inr (8, [.ref a8_0, .ref a8_1, .ref a8_2, .ref a8_3, .ref a8_4, .ref a8_5, .int v8_6, .ref a8_7, .ref a8_8, .ref a8_9, .ref a8_10, .ref a8_11, .int v8_12, .ref a8_13, .ref a8_14, .ref a8_15, .ref a8_16, .ref a8_17, .ref a8_18, .ref a8_19, .ref a8_20, .ref a8_21, .ref a8_22, .ref a8_23, .ref a8_24, .int v8_25, .int v8_26, .ref a8_27, .ref a8_28, .ref a8_29, .ref a8_30, .ref a8_31, .int v8_32, .int v8_33, .int v8_34, .int v8_35, .ref a8_36, .ref a8_37, .int v8_38, .int v8_39, .int v8_40, .ref a8_41, .ref a8_42, .int v8_43])), (a8_5, .inl (c8_5, 8, .inl f8_5))])) A) (by decide) rfl (Nat.le_of_ble_eq_true rfl) ?_
  intro p e s m below meth c A ls E hr hlocks hnm hsz hAe hX h hl
  have hx := E.1
  have hb := E.2.1
  have hl : lv_has ls 4 [(0, .ref o8), (1, .int p0), (2, .long p1)] := hl
  refine lv_lload_n hx hb dX8_cut_0 rfl (lv_at hl 2 rfl) ?_
  refine lv_lconst (v := 1) hx hb dX8_cut_1 (by decide) ?_
  refine lv_aload_n hx hb dX8_cut_2 rfl (lv_at hl 0 rfl) ?_
  refine k_get (v := .ref a8_5) E h (fun w h => List.mem_cons_of_mem _ (List.mem_append_right _ h)) 0 rfl rfl 5 (by decide) (List.mem_of_getElem? (i := 1) rfl) rfl dX8_cut_3 ?_
  refine lv_iload_n hx hb dX8_cut_6 rfl (lv_at hl 1 rfl) ?_
  refine k_iald (v := f8_5 p0.toNatClampNeg) E h 1 0 rfl rfl (vp_in_iff.mpr (by omega)) rfl dX8_cut_7 ?_
  refine lv_lshl (v := 1 <<< ((f8_5 p0.toNatClampNeg).toInt64 &&& 63)) hx hb dX8_cut_8 rfl ?_
  refine lv_lconst (v := 1) hx hb dX8_cut_9 (by decide) ?_
  refine lv_lsub hx hb dX8_cut_10 ?_
  refine lv_land hx hb dX8_cut_11 ?_
  have hP9 := h.2.1.sub [0, 1] rfl
  have hD9 := h.2.2.1.sub (ws' := [(o8, .inr (8, [.ref a8_0, .ref a8_1, .ref a8_2, .ref a8_3, .ref a8_4, .ref a8_5, .int v8_6, .ref a8_7, .ref a8_8, .ref a8_9, .ref a8_10, .ref a8_11, .int v8_12, .ref a8_13, .ref a8_14, .ref a8_15, .ref a8_16, .ref a8_17, .ref a8_18, .ref a8_19, .ref a8_20, .ref a8_21, .ref a8_22, .ref a8_23, .ref a8_24, .int v8_25, .int v8_26, .ref a8_27, .ref a8_28, .ref a8_29, .ref a8_30, .ref a8_31, .int v8_32, .int v8_33, .int v8_34, .int v8_35, .ref a8_36, .ref a8_37, .int v8_38, .int v8_39, .int v8_40, .ref a8_41, .ref a8_42, .int v8_43])), (a8_5, .inl (c8_5, 8, .inl f8_5))]) [0, 1] (by decide) rfl
  exact W.lret (v := p1 &&& ((1 <<< ((f8_5 p0.toNatClampNeg).toInt64 &&& 63)) - 1)) hx hb hr (fun t ht hW => ⟨⟨p1 &&& ((1 <<< ((f8_5 p0.toNatClampNeg).toInt64 &&& 63)) - 1), (), rfl, rfl, (by rw [ht]; exact hP9), hD9⟩, h.2.2.2.1.F ht⟩) h.2.2.2.1.2.2 dX8_cut_12 hlocks
end
section
theorem kfill {g : Nat → Int32} {i : Nat} {v : Int32} (h : ∀ j, j < i → g j = v) : ∀ j, j < i + 1 → upd g i v j = v := by
  intro j hj
  unfold upd
  by_cases e : j = i
  · rw [if_pos e]
  · rw [if_neg e]
    exact h j (by omega)
set_option maxHeartbeats 4000000 in
set_option maxRecDepth 100000 in
theorem c_J7_fill_53178 (l : Launch) (dC : Nat → ClassId) (dI : Nat → Nat → Nat) (sz : Nat) (a9_0 : Nat) (c9_0 : ClassId) (n9_0 : Nat) (f9_0 : Nat → Int32) (p1 : Int32) (hn : n9_0 < 2147483648) : Met l yJ7_fill_53178 wsJ7_fill_53178 ({ frames := 0, cells := 0, slots := 0, locals := 0 } : Room) (va_Pc [.ref a9_0, .int p1] (KPre (dC, dI) [(a9_0, .inl (c9_0, n9_0, .inl f9_0))] [(c9_0, .int)] sz (fun _ => True))) (va_Qv (fun (u : Unit) => True) (KPost (dC, dI) (va_A [(a9_0, .inl (c9_0, n9_0, .inl f9_0))] sz) (fun (u : Unit) => [(a9_0, .inl (c9_0, n9_0, .inl (fun _ => p1)))])) (va_A [(a9_0, .inl (c9_0, n9_0, .inl f9_0))] sz)) 0 0 (va_A [(a9_0, .inl (c9_0, n9_0, .inl f9_0))] sz) := by
  refine kMet (y := yJ7_fill_53178) (wsM := wsJ7_fill_53178) (cc := cJ7_fill_53178) (maxL := 4) (ret := none) (rm := ({ frames := 0, cells := 0, slots := 0, locals := 0 } : Room)) (mc := 0) (ms := 0) (av := [.ref a9_0, .int p1]) (D := (dC, dI)) (wc := [(a9_0, .inl (c9_0, n9_0, .inl f9_0))]) (tc := [(c9_0, .int)]) (sz := sz) (X := fun _ => True) (Qc := fun A => va_Qv (fun (u : Unit) => True) (KPost (dC, dI) A (fun (u : Unit) => [(a9_0, .inl (c9_0, n9_0, .inl (fun _ => p1)))])) A) (by decide) rfl (Nat.le_of_ble_eq_true rfl) ?_
  intro p e s m below meth c A ls E hr hlocks hnm hsz hAe hX h hl
  have hx := E.1
  have hb := E.2.1
  have hl : lv_has ls 4 [(0, .ref a9_0), (1, .int p1)] := hl
  refine lv_iconst (v := 0) hx hb dJ7_fill_53178_0 (by decide) ?_
  refine lv_istore_n (lv' := [(2, .int 0), (0, .ref a9_0), (1, .int p1)]) hx hb dJ7_fill_53178_1 rfl hl (by decide) rfl (fun ls hl => ?_)
  refine lv_aload_n hx hb dJ7_fill_53178_2 rfl (lv_at hl 1 rfl) ?_
  refine k_alen (v := nI n9_0) E h 0 0 rfl rfl rfl dJ7_fill_53178_3 ?_
  refine lv_istore_n (lv' := [(3, .int (nI n9_0)), (2, .int 0), (0, .ref a9_0), (1, .int p1)]) hx hb dJ7_fill_53178_4 rfl hl (by decide) rfl (fun ls hl => ?_)
  refine k_loop (σ := Nat × (Nat → Int32)) (fun x9 => [(a9_0, .inl (c9_0, n9_0, .inl x9.2))]) (fun x9 => [(0, .ref a9_0), (1, .int p1), (2, .int (nI x9.1)), (3, .int (nI n9_0))]) (fun n9 x9 => x9.1 ≤ n9_0 ∧ n9 = n9_0 - x9.1 ∧ ∀ j, j < x9.1 → x9.2 j = p1) ?_ (n9_0 - 0) (0, f9_0) ⟨Nat.zero_le _, rfl, fun j h => absurd h (Nat.not_lt_zero j)⟩ h (lv_sub hl [2, 3, 1, 0] rfl)
  intro n9 x9 H locs ls hI h hl ih
  obtain ⟨i, g⟩ := x9
  have hI : i ≤ n9_0 ∧ n9 = n9_0 - i ∧ ∀ j, j < i → g j = p1 := hI
  have h : KS (dC, dI) A [(a9_0, .inl (c9_0, n9_0, .inl g))] [(c9_0, .int)] s H locs := h
  have hl : lv_has ls 4 [(0, .ref a9_0), (1, .int p1), (2, .int (nI i)), (3, .int (nI n9_0))] := hl
  obtain ⟨hi1, hi2, hi3⟩ := hI
  refine lv_iload_n hx hb dJ7_fill_53178_5 rfl (lv_at hl 2 rfl) ?_
  refine lv_iload_n hx hb dJ7_fill_53178_6 rfl (lv_at hl 3 rfl) ?_
  refine lv_icmp_ge (tgt := 20) hx hb dJ7_fill_53178_7 (by decide) (fun c_1 => ?_) (fun c_1 => ?_)
  · skip
    have i_1 : n9_0 ≤ i := (nI_leI (a := n9_0) (b := i) (by omega) (by omega)).mp c_1
    have h : KS (dC, dI) A [(a9_0, .inl (c9_0, n9_0, .inl (fun _ => p1)))] [(c9_0, .int)] s _ _ := k_cong 0 h rfl (fun j hj => hi3 j (by omega)) rfl
    have hP9 := h.2.1.sub [0] rfl
    have hD9 := h.2.2.1.sub (ws' := [(a9_0, .inl (c9_0, n9_0, .inl (fun _ => p1)))]) [0] (by decide) rfl
    exact W.vret hx hb hr (fun t ht hW => ⟨⟨(), rfl, trivial, (by rw [ht]; exact hP9), hD9⟩, h.2.2.2.1.F ht⟩) h.2.2.2.1.2.2 dJ7_fill_53178_20 hlocks
  · skip
    have i_1 : ¬ n9_0 ≤ i := fun h9 => c_1 ((nI_leI (a := n9_0) (b := i) (by omega) (by omega)).mpr h9)
    refine lv_aload_n hx hb dJ7_fill_53178_10 rfl (lv_at hl 0 rfl) ?_
    refine lv_iload_n hx hb dJ7_fill_53178_11 rfl (lv_at hl 2 rfl) ?_
    refine lv_iload_n hx hb dJ7_fill_53178_12 rfl (lv_at hl 1 rfl) ?_
    refine k_iast (j := i) (ws' := [(a9_0, .inl (c9_0, n9_0, .inl (upd g i p1)))]) E h 0 0 rfl rfl (vp_in_nI (by omega) (by omega)) (nI_clamp (by omega)) rfl dJ7_fill_53178_13 (fun H locs h => ?_)
    refine lv_iinc (v := nI (i + 1)) (lv' := [(2, .int (nI (i + 1))), (0, .ref a9_0), (1, .int p1), (3, .int (nI n9_0))]) hx hb dJ7_fill_53178_14 hl (k := 2) rfl (nI_1 i) (by decide) rfl (fun ls hl => ?_)
    refine lv_goto (tgt := 5) hx hb dJ7_fill_53178_17 (by decide) ?_
    exact ih (n9_0 - (i + 1)) (i + 1, upd g i p1) _ _ _ (by omega) ⟨by omega, rfl, kfill hi3⟩ h (lv_sub hl [1, 2, 0, 3] rfl)
set_option maxHeartbeats 4000000 in
set_option maxRecDepth 100000 in
theorem c_X2_init (l : Launch) (dC : Nat → ClassId) (dI : Nat → Nat → Nat) (sz : Nat) (o2 : Nat)  : Met l yX2_init wsX2_init ({ frames := 1, cells := 4, slots := 142, locals := 23 } : Room) (va_Pc [.ref o2] (KPre (dC, dI) [(o2, .inr (2, [.null, .null, .null, .null, .int 0]))] [] sz (fun _ => True))) (va_Qv (fun (u : (Nat → Nat) × (Nat → ClassId)) => True) (KPostK (dC, dI) (va_A [(o2, .inr (2, [.null, .null, .null, .null, .int 0]))] sz) (fun (u : (Nat → Nat) × (Nat → ClassId)) => [(o2, .inr (2, [.ref (u.1 0), .ref (u.1 1), .ref (u.1 2), .ref (u.1 3), .int 0])), ((u.1 0), .inl ((u.2 0), 8, .inl (fun _ => 16))), ((u.1 1), .inl ((u.2 1), 74, .inr (.inl (fun _ => 0)))), ((u.1 2), .inl ((u.2 2), 30, .inl (fun _ => 0))), ((u.1 3), .inl ((u.2 3), 30, .inr (.inl (fun _ => 0))))]) (fun (u : (Nat → Nat) × (Nat → ClassId)) => [((u.2 0), .int), ((u.2 1), .long), ((u.2 2), .int), ((u.2 3), .long)])) (va_A [(o2, .inr (2, [.null, .null, .null, .null, .int 0]))] sz)) 4 142 (va_A [(o2, .inr (2, [.null, .null, .null, .null, .int 0]))] sz) := by
  refine kMet (y := yX2_init) (wsM := wsX2_init) (cc := cX2_init) (maxL := 1) (ret := none) (rm := ({ frames := 1, cells := 4, slots := 142, locals := 23 } : Room)) (mc := 4) (ms := 142) (av := [.ref o2]) (D := (dC, dI)) (wc := [(o2, .inr (2, [.null, .null, .null, .null, .int 0]))]) (tc := []) (sz := sz) (X := fun _ => True) (Qc := fun A => va_Qv (fun (u : (Nat → Nat) × (Nat → ClassId)) => True) (KPostK (dC, dI) A (fun (u : (Nat → Nat) × (Nat → ClassId)) => [(o2, .inr (2, [.ref (u.1 0), .ref (u.1 1), .ref (u.1 2), .ref (u.1 3), .int 0])), ((u.1 0), .inl ((u.2 0), 8, .inl (fun _ => 16))), ((u.1 1), .inl ((u.2 1), 74, .inr (.inl (fun _ => 0)))), ((u.1 2), .inl ((u.2 2), 30, .inl (fun _ => 0))), ((u.1 3), .inl ((u.2 3), 30, .inr (.inl (fun _ => 0))))]) (fun (u : (Nat → Nat) × (Nat → ClassId)) => [((u.2 0), .int), ((u.2 1), .long), ((u.2 2), .int), ((u.2 3), .long)])) A) (by decide) rfl (Nat.le_of_ble_eq_true rfl) ?_
  intro p e s m below meth c A ls E hr hlocks hnm hsz hAe hX h hl
  have hx := E.1
  have hb := E.2.1
  have hl : lv_has ls 1 [(0, .ref o2)] := hl
  refine lv_aload_n hx hb dX2_init_0 rfl (lv_at hl 0 rfl) ?_
  refine W.objInit hx hb E.2.2.2.1 (E.2.2.2.2 _ (List.mem_of_getElem? (i := 1) rfl)) (E.2.2.2.2 _ (List.mem_of_getElem? (i := 2) rfl)) (E.2.2.2.2 _ (List.mem_of_getElem? (i := 3) rfl)) rfl (by rw [E.2.2.1]; exact hl.1) rfl dX2_init_1 (Nat.le_of_ble_eq_true rfl) (Nat.le_of_ble_eq_true rfl) ?_
  refine W.eq (g2 := F0 m 4 ls []) rfl ?_
  refine lv_aload_n hx hb dX2_init_4 rfl (lv_at hl 0 rfl) ?_
  refine lv_bipush (v := 8) hx hb dX2_init_5 (by decide) ?_
  refine k_newa (ty := .int) (N' := 8) (a0 := (8, .inl (fun _ => 0))) (k := 1) (z := 8) E h (List.mem_of_getElem? (i := 4) rfl) rfl (fun _ => rfl) (by decide) (by decide) (by decide) (Nat.le_of_ble_eq_true rfl) (Nat.le_of_ble_eq_true rfl) dX2_init_7 (Nat.le_of_ble_eq_true rfl) (Nat.le_of_ble_eq_true rfl) (fun q_1 k_2 H h => ?_)
  have h : KS (dC, dI) A [(o2, .inr (2, [.null, .null, .null, .null, .int 0])), (q_1, .inl (k_2, 8, .inl (fun _ => 0)))] [(k_2, .int)] s H _ := h
  refine k_putF (v := .ref q_1) (ty := .array .int) (ws' := [(o2, .inr (2, [.ref q_1, .null, .null, .null, .int 0])), (q_1, .inl (k_2, 8, .inl (fun _ => 0)))]) E h (fun w h => List.mem_cons_of_mem _ (List.mem_append_right _ h)) tyX2_ok nmX2 0 rfl rfl 0 (by decide) (List.mem_of_getElem? (i := 5) rfl) rfl hnm rfl (by decide +kernel) rfl rfl (Nat.le_of_ble_eq_true rfl) rfl dX2_init_9 (fun H locs h => ?_)
  refine lv_aload_n hx hb dX2_init_12 rfl (lv_at hl 0 rfl) ?_
  refine lv_bipush (v := 74) hx hb dX2_init_13 (by decide) ?_
  refine k_newa (ty := .long) (N' := 74) (a0 := (74, .inr (.inl (fun _ => 0)))) (k := 2) (z := 82) E h (List.mem_of_getElem? (i := 6) rfl) rfl (fun _ => rfl) (by decide) (by decide) (by decide) (Nat.le_of_ble_eq_true rfl) (Nat.le_of_ble_eq_true rfl) dX2_init_15 (Nat.le_of_ble_eq_true rfl) (Nat.le_of_ble_eq_true rfl) (fun q_3 k_4 H h => ?_)
  have h : KS (dC, dI) A [(o2, .inr (2, [.ref q_1, .null, .null, .null, .int 0])), (q_1, .inl (k_2, 8, .inl (fun _ => 0))), (q_3, .inl (k_4, 74, .inr (.inl (fun _ => 0))))] [(k_2, .int), (k_4, .long)] s H _ := h
  refine k_putF (v := .ref q_3) (ty := .array .long) (ws' := [(o2, .inr (2, [.ref q_1, .ref q_3, .null, .null, .int 0])), (q_1, .inl (k_2, 8, .inl (fun _ => 0))), (q_3, .inl (k_4, 74, .inr (.inl (fun _ => 0))))]) E h (fun w h => List.mem_cons_of_mem _ (List.mem_append_right _ h)) tyX2_ok nmX2 0 rfl rfl 1 (by decide) (List.mem_of_getElem? (i := 7) rfl) rfl hnm rfl (by decide +kernel) rfl rfl (Nat.le_of_ble_eq_true rfl) rfl dX2_init_17 (fun H locs h => ?_)
  refine lv_aload_n hx hb dX2_init_20 rfl (lv_at hl 0 rfl) ?_
  refine lv_bipush (v := 30) hx hb dX2_init_21 (by decide) ?_
  refine k_newa (ty := .int) (N' := 30) (a0 := (30, .inl (fun _ => 0))) (k := 3) (z := 112) E h (List.mem_of_getElem? (i := 4) rfl) rfl (fun _ => rfl) (by decide) (by decide) (by decide) (Nat.le_of_ble_eq_true rfl) (Nat.le_of_ble_eq_true rfl) dX2_init_23 (Nat.le_of_ble_eq_true rfl) (Nat.le_of_ble_eq_true rfl) (fun q_5 k_6 H h => ?_)
  have h : KS (dC, dI) A [(o2, .inr (2, [.ref q_1, .ref q_3, .null, .null, .int 0])), (q_1, .inl (k_2, 8, .inl (fun _ => 0))), (q_3, .inl (k_4, 74, .inr (.inl (fun _ => 0)))), (q_5, .inl (k_6, 30, .inl (fun _ => 0)))] [(k_2, .int), (k_4, .long), (k_6, .int)] s H _ := h
  refine W.eq (g2 := F0 m 25 ls [.ref q_5, .ref o2]) rfl ?_
  refine k_putF (v := .ref q_5) (ty := .array .int) (ws' := [(o2, .inr (2, [.ref q_1, .ref q_3, .ref q_5, .null, .int 0])), (q_1, .inl (k_2, 8, .inl (fun _ => 0))), (q_3, .inl (k_4, 74, .inr (.inl (fun _ => 0)))), (q_5, .inl (k_6, 30, .inl (fun _ => 0)))]) E h (fun w h => List.mem_cons_of_mem _ (List.mem_append_right _ h)) tyX2_ok nmX2 0 rfl rfl 2 (by decide) (List.mem_of_getElem? (i := 8) rfl) rfl hnm rfl (by decide +kernel) rfl rfl (Nat.le_of_ble_eq_true rfl) rfl dX2_init_25 (fun H locs h => ?_)
  refine lv_aload_n hx hb dX2_init_28 rfl (lv_at hl 0 rfl) ?_
  refine lv_bipush (v := 30) hx hb dX2_init_29 (by decide) ?_
  refine k_newa (ty := .long) (N' := 30) (a0 := (30, .inr (.inl (fun _ => 0)))) (k := 4) (z := 142) E h (List.mem_of_getElem? (i := 6) rfl) rfl (fun _ => rfl) (by decide) (by decide) (by decide) (Nat.le_of_ble_eq_true rfl) (Nat.le_of_ble_eq_true rfl) dX2_init_31 (Nat.le_of_ble_eq_true rfl) (Nat.le_of_ble_eq_true rfl) (fun q_7 k_8 H h => ?_)
  have h : KS (dC, dI) A [(o2, .inr (2, [.ref q_1, .ref q_3, .ref q_5, .null, .int 0])), (q_1, .inl (k_2, 8, .inl (fun _ => 0))), (q_3, .inl (k_4, 74, .inr (.inl (fun _ => 0)))), (q_5, .inl (k_6, 30, .inl (fun _ => 0))), (q_7, .inl (k_8, 30, .inr (.inl (fun _ => 0))))] [(k_2, .int), (k_4, .long), (k_6, .int), (k_8, .long)] s H _ := h
  refine k_putF (v := .ref q_7) (ty := .array .long) (ws' := [(o2, .inr (2, [.ref q_1, .ref q_3, .ref q_5, .ref q_7, .int 0])), (q_1, .inl (k_2, 8, .inl (fun _ => 0))), (q_3, .inl (k_4, 74, .inr (.inl (fun _ => 0)))), (q_5, .inl (k_6, 30, .inl (fun _ => 0))), (q_7, .inl (k_8, 30, .inr (.inl (fun _ => 0))))]) E h (fun w h => List.mem_cons_of_mem _ (List.mem_append_right _ h)) tyX2_ok nmX2 0 rfl rfl 3 (by decide) (List.mem_of_getElem? (i := 9) rfl) rfl hnm rfl (by decide +kernel) rfl rfl (Nat.le_of_ble_eq_true rfl) rfl dX2_init_33 (fun H locs h => ?_)
  refine lv_aload_n hx hb dX2_init_36 rfl (lv_at hl 0 rfl) ?_
  refine k_get (v := .ref q_1) E h (fun w h => List.mem_cons_of_mem _ (List.mem_append_right _ h)) 0 rfl rfl 0 (by decide) (List.mem_of_getElem? (i := 5) rfl) rfl dX2_init_37 ?_
  refine lv_bipush (v := 16) hx hb dX2_init_40 (by decide) ?_
  refine kc_v (wc := [(q_1, .inl (k_2, 8, .inl (fun _ => 0)))]) (wr := [(o2, .inr (2, [.ref q_1, .ref q_3, .ref q_5, .ref q_7, .int 0])), (q_3, .inl (k_4, 74, .inr (.inl (fun _ => 0)))), (q_5, .inl (k_6, 30, .inl (fun _ => 0))), (q_7, .inl (k_8, 30, .inr (.inl (fun _ => 0))))]) h (va_runS (As := [.ref q_1, .int 16]) (rest := []) E (c_J7_fill_53178 l dC dI _ (a9_0 := q_1) (c9_0 := k_2) (n9_0 := 8) (f9_0 := fun _ => 0) (p1 := 16)  (hn := (by decide))) (va_cwS 2 E.2.2.2.2 gX2_init_J7_fill_53178 rfl rfl rfl (by decide +kernel) ⟨Nat.le_of_ble_eq_true rfl, Nat.le_of_ble_eq_true rfl⟩) (kPreS h KX_true (fun _ _ _ => trivial) [1] [0] (by decide) rfl rfl) rfl rfl hl.1 rfl (lv_room (Nat.le_of_ble_eq_true rfl)) dX2_init_42 ⟨Nat.le_of_ble_eq_true rfl, Nat.le_of_ble_eq_true rfl⟩) [1] [0, 2, 3, 4] rfl rfl (by decide) (by decide) (fun u_9 H locs hw_9 h => ?_)
  have h : KS (dC, dI) A [(o2, .inr (2, [.ref q_1, .ref q_3, .ref q_5, .ref q_7, .int 0])), (q_3, .inl (k_4, 74, .inr (.inl (fun _ => 0)))), (q_5, .inl (k_6, 30, .inl (fun _ => 0))), (q_7, .inl (k_8, 30, .inr (.inl (fun _ => 0)))), (q_1, .inl (k_2, 8, .inl (fun _ => 16)))] [(k_2, .int), (k_4, .long), (k_6, .int), (k_8, .long)] s H locs := h
  refine W.eq (g2 := F0 m 45 ls []) rfl ?_
  have hP9 := h.2.1.sub [0, 4, 1, 2, 3] rfl
  have hD9 := h.2.2.1.sub (ws' := [(o2, .inr (2, [.ref q_1, .ref q_3, .ref q_5, .ref q_7, .int 0])), (q_1, .inl (k_2, 8, .inl (fun _ => 16))), (q_3, .inl (k_4, 74, .inr (.inl (fun _ => 0)))), (q_5, .inl (k_6, 30, .inl (fun _ => 0))), (q_7, .inl (k_8, 30, .inr (.inl (fun _ => 0))))]) [0, 4, 1, 2, 3] (by decide) rfl
  have hK9 := h.1.sub (tys' := [(k_2, .int), (k_4, .long), (k_6, .int), (k_8, .long)]) [0, 1, 2, 3] rfl
  exact W.vret hx hb hr (fun t ht hW => ⟨⟨(fun i => [q_1, q_3, q_5, q_7].getD i 0, fun i => [k_2, k_4, k_6, k_8].getD i 0), rfl, trivial, (by rw [ht]; exact hP9), hD9, va_K.moved hW.alike hK9⟩, h.2.2.2.1.F ht⟩) h.2.2.2.1.2.2 dX2_init_45 hlocks
set_option maxHeartbeats 4000000 in
set_option maxRecDepth 100000 in
theorem c_X5_init (l : Launch) (dC : Nat → ClassId) (dI : Nat → Nat → Nat) (sz : Nat) (o5 : Nat)  : Met l yX5_init wsX5_init ({ frames := 1, cells := 7, slots := 732, locals := 20 } : Room) (va_Pc [.ref o5] (KPre (dC, dI) [(o5, .inr (5, [.null, .null, .null, .null, .null, .null, .null]))] [] sz (fun _ => True))) (va_Qv (fun (u : (Nat → Nat) × (Nat → ClassId)) => True) (KPostK (dC, dI) (va_A [(o5, .inr (5, [.null, .null, .null, .null, .null, .null, .null]))] sz) (fun (u : (Nat → Nat) × (Nat → ClassId)) => [(o5, .inr (5, [.ref (u.1 0), .ref (u.1 1), .ref (u.1 2), .ref (u.1 3), .ref (u.1 4), .ref (u.1 5), .ref (u.1 6)])), ((u.1 0), .inl ((u.2 0), 12, .inl (fun _ => 0))), ((u.1 1), .inl ((u.2 1), 120, .inl (fun _ => 0))), ((u.1 2), .inl ((u.2 2), 120, .inl (fun _ => 0))), ((u.1 3), .inl ((u.2 3), 120, .inl (fun _ => 0))), ((u.1 4), .inl ((u.2 4), 120, .inl (fun _ => 0))), ((u.1 5), .inl ((u.2 5), 120, .inl (fun _ => 0))), ((u.1 6), .inl ((u.2 6), 120, .inl (fun _ => 0)))]) (fun (u : (Nat → Nat) × (Nat → ClassId)) => [((u.2 0), .int), ((u.2 1), .int), ((u.2 2), .int), ((u.2 3), .int), ((u.2 4), .int), ((u.2 5), .int), ((u.2 6), .int)])) (va_A [(o5, .inr (5, [.null, .null, .null, .null, .null, .null, .null]))] sz)) 7 732 (va_A [(o5, .inr (5, [.null, .null, .null, .null, .null, .null, .null]))] sz) := by
  refine kMet (y := yX5_init) (wsM := wsX5_init) (cc := cX5_init) (maxL := 1) (ret := none) (rm := ({ frames := 1, cells := 7, slots := 732, locals := 20 } : Room)) (mc := 7) (ms := 732) (av := [.ref o5]) (D := (dC, dI)) (wc := [(o5, .inr (5, [.null, .null, .null, .null, .null, .null, .null]))]) (tc := []) (sz := sz) (X := fun _ => True) (Qc := fun A => va_Qv (fun (u : (Nat → Nat) × (Nat → ClassId)) => True) (KPostK (dC, dI) A (fun (u : (Nat → Nat) × (Nat → ClassId)) => [(o5, .inr (5, [.ref (u.1 0), .ref (u.1 1), .ref (u.1 2), .ref (u.1 3), .ref (u.1 4), .ref (u.1 5), .ref (u.1 6)])), ((u.1 0), .inl ((u.2 0), 12, .inl (fun _ => 0))), ((u.1 1), .inl ((u.2 1), 120, .inl (fun _ => 0))), ((u.1 2), .inl ((u.2 2), 120, .inl (fun _ => 0))), ((u.1 3), .inl ((u.2 3), 120, .inl (fun _ => 0))), ((u.1 4), .inl ((u.2 4), 120, .inl (fun _ => 0))), ((u.1 5), .inl ((u.2 5), 120, .inl (fun _ => 0))), ((u.1 6), .inl ((u.2 6), 120, .inl (fun _ => 0)))]) (fun (u : (Nat → Nat) × (Nat → ClassId)) => [((u.2 0), .int), ((u.2 1), .int), ((u.2 2), .int), ((u.2 3), .int), ((u.2 4), .int), ((u.2 5), .int), ((u.2 6), .int)])) A) (by decide) rfl (Nat.le_of_ble_eq_true rfl) ?_
  intro p e s m below meth c A ls E hr hlocks hnm hsz hAe hX h hl
  have hx := E.1
  have hb := E.2.1
  have hl : lv_has ls 1 [(0, .ref o5)] := hl
  refine lv_aload_n hx hb dX5_init_0 rfl (lv_at hl 0 rfl) ?_
  refine W.objInit hx hb E.2.2.2.1 (E.2.2.2.2 _ (List.mem_of_getElem? (i := 1) rfl)) (E.2.2.2.2 _ (List.mem_of_getElem? (i := 2) rfl)) (E.2.2.2.2 _ (List.mem_of_getElem? (i := 3) rfl)) rfl (by rw [E.2.2.1]; exact hl.1) rfl dX5_init_1 (Nat.le_of_ble_eq_true rfl) (Nat.le_of_ble_eq_true rfl) ?_
  refine W.eq (g2 := F0 m 4 ls []) rfl ?_
  refine lv_aload_n hx hb dX5_init_4 rfl (lv_at hl 0 rfl) ?_
  refine lv_bipush (v := 12) hx hb dX5_init_5 (by decide) ?_
  refine k_newa (ty := .int) (N' := 12) (a0 := (12, .inl (fun _ => 0))) (k := 1) (z := 12) E h (List.mem_of_getElem? (i := 4) rfl) rfl (fun _ => rfl) (by decide) (by decide) (by decide) (Nat.le_of_ble_eq_true rfl) (Nat.le_of_ble_eq_true rfl) dX5_init_7 (Nat.le_of_ble_eq_true rfl) (Nat.le_of_ble_eq_true rfl) (fun q_1 k_2 H h => ?_)
  have h : KS (dC, dI) A [(o5, .inr (5, [.null, .null, .null, .null, .null, .null, .null])), (q_1, .inl (k_2, 12, .inl (fun _ => 0)))] [(k_2, .int)] s H _ := h
  refine k_putF (v := .ref q_1) (ty := .array .int) (ws' := [(o5, .inr (5, [.ref q_1, .null, .null, .null, .null, .null, .null])), (q_1, .inl (k_2, 12, .inl (fun _ => 0)))]) E h (fun w h => List.mem_cons_of_mem _ (List.mem_append_right _ h)) tyX5_ok nmX5 0 rfl rfl 0 (by decide) (List.mem_of_getElem? (i := 5) rfl) rfl hnm rfl (by decide +kernel) rfl rfl (Nat.le_of_ble_eq_true rfl) rfl dX5_init_9 (fun H locs h => ?_)
  refine lv_aload_n hx hb dX5_init_12 rfl (lv_at hl 0 rfl) ?_
  refine lv_bipush (v := 120) hx hb dX5_init_13 (by decide) ?_
  refine k_newa (ty := .int) (N' := 120) (a0 := (120, .inl (fun _ => 0))) (k := 2) (z := 132) E h (List.mem_of_getElem? (i := 4) rfl) rfl (fun _ => rfl) (by decide) (by decide) (by decide) (Nat.le_of_ble_eq_true rfl) (Nat.le_of_ble_eq_true rfl) dX5_init_15 (Nat.le_of_ble_eq_true rfl) (Nat.le_of_ble_eq_true rfl) (fun q_3 k_4 H h => ?_)
  have h : KS (dC, dI) A [(o5, .inr (5, [.ref q_1, .null, .null, .null, .null, .null, .null])), (q_1, .inl (k_2, 12, .inl (fun _ => 0))), (q_3, .inl (k_4, 120, .inl (fun _ => 0)))] [(k_2, .int), (k_4, .int)] s H _ := h
  refine k_putF (v := .ref q_3) (ty := .array .int) (ws' := [(o5, .inr (5, [.ref q_1, .ref q_3, .null, .null, .null, .null, .null])), (q_1, .inl (k_2, 12, .inl (fun _ => 0))), (q_3, .inl (k_4, 120, .inl (fun _ => 0)))]) E h (fun w h => List.mem_cons_of_mem _ (List.mem_append_right _ h)) tyX5_ok nmX5 0 rfl rfl 1 (by decide) (List.mem_of_getElem? (i := 6) rfl) rfl hnm rfl (by decide +kernel) rfl rfl (Nat.le_of_ble_eq_true rfl) rfl dX5_init_17 (fun H locs h => ?_)
  refine lv_aload_n hx hb dX5_init_20 rfl (lv_at hl 0 rfl) ?_
  refine lv_bipush (v := 120) hx hb dX5_init_21 (by decide) ?_
  refine k_newa (ty := .int) (N' := 120) (a0 := (120, .inl (fun _ => 0))) (k := 3) (z := 252) E h (List.mem_of_getElem? (i := 4) rfl) rfl (fun _ => rfl) (by decide) (by decide) (by decide) (Nat.le_of_ble_eq_true rfl) (Nat.le_of_ble_eq_true rfl) dX5_init_23 (Nat.le_of_ble_eq_true rfl) (Nat.le_of_ble_eq_true rfl) (fun q_5 k_6 H h => ?_)
  have h : KS (dC, dI) A [(o5, .inr (5, [.ref q_1, .ref q_3, .null, .null, .null, .null, .null])), (q_1, .inl (k_2, 12, .inl (fun _ => 0))), (q_3, .inl (k_4, 120, .inl (fun _ => 0))), (q_5, .inl (k_6, 120, .inl (fun _ => 0)))] [(k_2, .int), (k_4, .int), (k_6, .int)] s H _ := h
  refine W.eq (g2 := F0 m 25 ls [.ref q_5, .ref o5]) rfl ?_
  refine k_putF (v := .ref q_5) (ty := .array .int) (ws' := [(o5, .inr (5, [.ref q_1, .ref q_3, .ref q_5, .null, .null, .null, .null])), (q_1, .inl (k_2, 12, .inl (fun _ => 0))), (q_3, .inl (k_4, 120, .inl (fun _ => 0))), (q_5, .inl (k_6, 120, .inl (fun _ => 0)))]) E h (fun w h => List.mem_cons_of_mem _ (List.mem_append_right _ h)) tyX5_ok nmX5 0 rfl rfl 2 (by decide) (List.mem_of_getElem? (i := 7) rfl) rfl hnm rfl (by decide +kernel) rfl rfl (Nat.le_of_ble_eq_true rfl) rfl dX5_init_25 (fun H locs h => ?_)
  refine lv_aload_n hx hb dX5_init_28 rfl (lv_at hl 0 rfl) ?_
  refine lv_bipush (v := 120) hx hb dX5_init_29 (by decide) ?_
  refine k_newa (ty := .int) (N' := 120) (a0 := (120, .inl (fun _ => 0))) (k := 4) (z := 372) E h (List.mem_of_getElem? (i := 4) rfl) rfl (fun _ => rfl) (by decide) (by decide) (by decide) (Nat.le_of_ble_eq_true rfl) (Nat.le_of_ble_eq_true rfl) dX5_init_31 (Nat.le_of_ble_eq_true rfl) (Nat.le_of_ble_eq_true rfl) (fun q_7 k_8 H h => ?_)
  have h : KS (dC, dI) A [(o5, .inr (5, [.ref q_1, .ref q_3, .ref q_5, .null, .null, .null, .null])), (q_1, .inl (k_2, 12, .inl (fun _ => 0))), (q_3, .inl (k_4, 120, .inl (fun _ => 0))), (q_5, .inl (k_6, 120, .inl (fun _ => 0))), (q_7, .inl (k_8, 120, .inl (fun _ => 0)))] [(k_2, .int), (k_4, .int), (k_6, .int), (k_8, .int)] s H _ := h
  refine k_putF (v := .ref q_7) (ty := .array .int) (ws' := [(o5, .inr (5, [.ref q_1, .ref q_3, .ref q_5, .ref q_7, .null, .null, .null])), (q_1, .inl (k_2, 12, .inl (fun _ => 0))), (q_3, .inl (k_4, 120, .inl (fun _ => 0))), (q_5, .inl (k_6, 120, .inl (fun _ => 0))), (q_7, .inl (k_8, 120, .inl (fun _ => 0)))]) E h (fun w h => List.mem_cons_of_mem _ (List.mem_append_right _ h)) tyX5_ok nmX5 0 rfl rfl 3 (by decide) (List.mem_of_getElem? (i := 8) rfl) rfl hnm rfl (by decide +kernel) rfl rfl (Nat.le_of_ble_eq_true rfl) rfl dX5_init_33 (fun H locs h => ?_)
  refine lv_aload_n hx hb dX5_init_36 rfl (lv_at hl 0 rfl) ?_
  refine lv_bipush (v := 120) hx hb dX5_init_37 (by decide) ?_
  refine k_newa (ty := .int) (N' := 120) (a0 := (120, .inl (fun _ => 0))) (k := 5) (z := 492) E h (List.mem_of_getElem? (i := 4) rfl) rfl (fun _ => rfl) (by decide) (by decide) (by decide) (Nat.le_of_ble_eq_true rfl) (Nat.le_of_ble_eq_true rfl) dX5_init_39 (Nat.le_of_ble_eq_true rfl) (Nat.le_of_ble_eq_true rfl) (fun q_9 k_10 H h => ?_)
  have h : KS (dC, dI) A [(o5, .inr (5, [.ref q_1, .ref q_3, .ref q_5, .ref q_7, .null, .null, .null])), (q_1, .inl (k_2, 12, .inl (fun _ => 0))), (q_3, .inl (k_4, 120, .inl (fun _ => 0))), (q_5, .inl (k_6, 120, .inl (fun _ => 0))), (q_7, .inl (k_8, 120, .inl (fun _ => 0))), (q_9, .inl (k_10, 120, .inl (fun _ => 0)))] [(k_2, .int), (k_4, .int), (k_6, .int), (k_8, .int), (k_10, .int)] s H _ := h
  refine k_putF (v := .ref q_9) (ty := .array .int) (ws' := [(o5, .inr (5, [.ref q_1, .ref q_3, .ref q_5, .ref q_7, .ref q_9, .null, .null])), (q_1, .inl (k_2, 12, .inl (fun _ => 0))), (q_3, .inl (k_4, 120, .inl (fun _ => 0))), (q_5, .inl (k_6, 120, .inl (fun _ => 0))), (q_7, .inl (k_8, 120, .inl (fun _ => 0))), (q_9, .inl (k_10, 120, .inl (fun _ => 0)))]) E h (fun w h => List.mem_cons_of_mem _ (List.mem_append_right _ h)) tyX5_ok nmX5 0 rfl rfl 4 (by decide) (List.mem_of_getElem? (i := 9) rfl) rfl hnm rfl (by decide +kernel) rfl rfl (Nat.le_of_ble_eq_true rfl) rfl dX5_init_41 (fun H locs h => ?_)
  refine lv_aload_n hx hb dX5_init_44 rfl (lv_at hl 0 rfl) ?_
  refine lv_bipush (v := 120) hx hb dX5_init_45 (by decide) ?_
  refine k_newa (ty := .int) (N' := 120) (a0 := (120, .inl (fun _ => 0))) (k := 6) (z := 612) E h (List.mem_of_getElem? (i := 4) rfl) rfl (fun _ => rfl) (by decide) (by decide) (by decide) (Nat.le_of_ble_eq_true rfl) (Nat.le_of_ble_eq_true rfl) dX5_init_47 (Nat.le_of_ble_eq_true rfl) (Nat.le_of_ble_eq_true rfl) (fun q_11 k_12 H h => ?_)
  have h : KS (dC, dI) A [(o5, .inr (5, [.ref q_1, .ref q_3, .ref q_5, .ref q_7, .ref q_9, .null, .null])), (q_1, .inl (k_2, 12, .inl (fun _ => 0))), (q_3, .inl (k_4, 120, .inl (fun _ => 0))), (q_5, .inl (k_6, 120, .inl (fun _ => 0))), (q_7, .inl (k_8, 120, .inl (fun _ => 0))), (q_9, .inl (k_10, 120, .inl (fun _ => 0))), (q_11, .inl (k_12, 120, .inl (fun _ => 0)))] [(k_2, .int), (k_4, .int), (k_6, .int), (k_8, .int), (k_10, .int), (k_12, .int)] s H _ := h
  refine W.eq (g2 := F0 m 49 ls [.ref q_11, .ref o5]) rfl ?_
  refine k_putF (v := .ref q_11) (ty := .array .int) (ws' := [(o5, .inr (5, [.ref q_1, .ref q_3, .ref q_5, .ref q_7, .ref q_9, .ref q_11, .null])), (q_1, .inl (k_2, 12, .inl (fun _ => 0))), (q_3, .inl (k_4, 120, .inl (fun _ => 0))), (q_5, .inl (k_6, 120, .inl (fun _ => 0))), (q_7, .inl (k_8, 120, .inl (fun _ => 0))), (q_9, .inl (k_10, 120, .inl (fun _ => 0))), (q_11, .inl (k_12, 120, .inl (fun _ => 0)))]) E h (fun w h => List.mem_cons_of_mem _ (List.mem_append_right _ h)) tyX5_ok nmX5 0 rfl rfl 5 (by decide) (List.mem_of_getElem? (i := 10) rfl) rfl hnm rfl (by decide +kernel) rfl rfl (Nat.le_of_ble_eq_true rfl) rfl dX5_init_49 (fun H locs h => ?_)
  refine lv_aload_n hx hb dX5_init_52 rfl (lv_at hl 0 rfl) ?_
  refine lv_bipush (v := 120) hx hb dX5_init_53 (by decide) ?_
  refine k_newa (ty := .int) (N' := 120) (a0 := (120, .inl (fun _ => 0))) (k := 7) (z := 732) E h (List.mem_of_getElem? (i := 4) rfl) rfl (fun _ => rfl) (by decide) (by decide) (by decide) (Nat.le_of_ble_eq_true rfl) (Nat.le_of_ble_eq_true rfl) dX5_init_55 (Nat.le_of_ble_eq_true rfl) (Nat.le_of_ble_eq_true rfl) (fun q_13 k_14 H h => ?_)
  have h : KS (dC, dI) A [(o5, .inr (5, [.ref q_1, .ref q_3, .ref q_5, .ref q_7, .ref q_9, .ref q_11, .null])), (q_1, .inl (k_2, 12, .inl (fun _ => 0))), (q_3, .inl (k_4, 120, .inl (fun _ => 0))), (q_5, .inl (k_6, 120, .inl (fun _ => 0))), (q_7, .inl (k_8, 120, .inl (fun _ => 0))), (q_9, .inl (k_10, 120, .inl (fun _ => 0))), (q_11, .inl (k_12, 120, .inl (fun _ => 0))), (q_13, .inl (k_14, 120, .inl (fun _ => 0)))] [(k_2, .int), (k_4, .int), (k_6, .int), (k_8, .int), (k_10, .int), (k_12, .int), (k_14, .int)] s H _ := h
  refine k_putF (v := .ref q_13) (ty := .array .int) (ws' := [(o5, .inr (5, [.ref q_1, .ref q_3, .ref q_5, .ref q_7, .ref q_9, .ref q_11, .ref q_13])), (q_1, .inl (k_2, 12, .inl (fun _ => 0))), (q_3, .inl (k_4, 120, .inl (fun _ => 0))), (q_5, .inl (k_6, 120, .inl (fun _ => 0))), (q_7, .inl (k_8, 120, .inl (fun _ => 0))), (q_9, .inl (k_10, 120, .inl (fun _ => 0))), (q_11, .inl (k_12, 120, .inl (fun _ => 0))), (q_13, .inl (k_14, 120, .inl (fun _ => 0)))]) E h (fun w h => List.mem_cons_of_mem _ (List.mem_append_right _ h)) tyX5_ok nmX5 0 rfl rfl 6 (by decide) (List.mem_of_getElem? (i := 11) rfl) rfl hnm rfl (by decide +kernel) rfl rfl (Nat.le_of_ble_eq_true rfl) rfl dX5_init_57 (fun H locs h => ?_)
  have hP9 := h.2.1.sub [0, 1, 2, 3, 4, 5, 6, 7] rfl
  have hD9 := h.2.2.1.sub (ws' := [(o5, .inr (5, [.ref q_1, .ref q_3, .ref q_5, .ref q_7, .ref q_9, .ref q_11, .ref q_13])), (q_1, .inl (k_2, 12, .inl (fun _ => 0))), (q_3, .inl (k_4, 120, .inl (fun _ => 0))), (q_5, .inl (k_6, 120, .inl (fun _ => 0))), (q_7, .inl (k_8, 120, .inl (fun _ => 0))), (q_9, .inl (k_10, 120, .inl (fun _ => 0))), (q_11, .inl (k_12, 120, .inl (fun _ => 0))), (q_13, .inl (k_14, 120, .inl (fun _ => 0)))]) [0, 1, 2, 3, 4, 5, 6, 7] (by decide) rfl
  have hK9 := h.1.sub (tys' := [(k_2, .int), (k_4, .int), (k_6, .int), (k_8, .int), (k_10, .int), (k_12, .int), (k_14, .int)]) [0, 1, 2, 3, 4, 5, 6] rfl
  exact W.vret hx hb hr (fun t ht hW => ⟨⟨(fun i => [q_1, q_3, q_5, q_7, q_9, q_11, q_13].getD i 0, fun i => [k_2, k_4, k_6, k_8, k_10, k_12, k_14].getD i 0), rfl, trivial, (by rw [ht]; exact hP9), hD9, va_K.moved hW.alike hK9⟩, h.2.2.2.1.F ht⟩) h.2.2.2.1.2.2 dX5_init_60 hlocks
set_option maxHeartbeats 4000000 in
set_option maxRecDepth 100000 in
theorem c_X6_init (l : Launch) (dC : Nat → ClassId) (dI : Nat → Nat → Nat) (sz : Nat) (o6 : Nat) (o5 : Nat)  : Met l yX6_init wsX6_init ({ frames := 1, cells := 7, slots := 1074, locals := 20 } : Room) (va_Pc [.ref o6, .ref o5] (KPre (dC, dI) [(o6, .inr (6, [.null, .null, .null, .null, .null, .null, .null, .null, .int 0, .int 0]))] [] sz (fun _ => True))) (va_Qv (fun (u : (Nat → Nat) × (Nat → ClassId)) => True) (KPostK (dC, dI) (va_A [(o6, .inr (6, [.null, .null, .null, .null, .null, .null, .null, .null, .int 0, .int 0]))] sz) (fun (u : (Nat → Nat) × (Nat → ClassId)) => [(o6, .inr (6, [.ref (u.1 0), .ref o5, .ref (u.1 1), .ref (u.1 2), .ref (u.1 3), .ref (u.1 4), .ref (u.1 5), .ref (u.1 6), .int 0, .int 0])), ((u.1 0), .inl ((u.2 0), 10, .inl (fun _ => 0))), ((u.1 1), .inl ((u.2 1), 10, .inl (fun _ => 0))), ((u.1 2), .inl ((u.2 2), 10, .inl (fun _ => 0))), ((u.1 3), .inl ((u.2 3), 10, .inl (fun _ => 0))), ((u.1 4), .inl ((u.2 4), 5, .inl (fun _ => 0))), ((u.1 5), .inl ((u.2 5), 5, .inl (fun _ => 0))), ((u.1 6), .inl ((u.2 6), 1024, .inl (fun _ => 0)))]) (fun (u : (Nat → Nat) × (Nat → ClassId)) => [((u.2 0), .int), ((u.2 1), .int), ((u.2 2), .int), ((u.2 3), .int), ((u.2 4), .int), ((u.2 5), .int), ((u.2 6), .byte)])) (va_A [(o6, .inr (6, [.null, .null, .null, .null, .null, .null, .null, .null, .int 0, .int 0]))] sz)) 7 1074 (va_A [(o6, .inr (6, [.null, .null, .null, .null, .null, .null, .null, .null, .int 0, .int 0]))] sz) := by
  refine kMet (y := yX6_init) (wsM := wsX6_init) (cc := cX6_init) (maxL := 2) (ret := none) (rm := ({ frames := 1, cells := 7, slots := 1074, locals := 20 } : Room)) (mc := 7) (ms := 1074) (av := [.ref o6, .ref o5]) (D := (dC, dI)) (wc := [(o6, .inr (6, [.null, .null, .null, .null, .null, .null, .null, .null, .int 0, .int 0]))]) (tc := []) (sz := sz) (X := fun _ => True) (Qc := fun A => va_Qv (fun (u : (Nat → Nat) × (Nat → ClassId)) => True) (KPostK (dC, dI) A (fun (u : (Nat → Nat) × (Nat → ClassId)) => [(o6, .inr (6, [.ref (u.1 0), .ref o5, .ref (u.1 1), .ref (u.1 2), .ref (u.1 3), .ref (u.1 4), .ref (u.1 5), .ref (u.1 6), .int 0, .int 0])), ((u.1 0), .inl ((u.2 0), 10, .inl (fun _ => 0))), ((u.1 1), .inl ((u.2 1), 10, .inl (fun _ => 0))), ((u.1 2), .inl ((u.2 2), 10, .inl (fun _ => 0))), ((u.1 3), .inl ((u.2 3), 10, .inl (fun _ => 0))), ((u.1 4), .inl ((u.2 4), 5, .inl (fun _ => 0))), ((u.1 5), .inl ((u.2 5), 5, .inl (fun _ => 0))), ((u.1 6), .inl ((u.2 6), 1024, .inl (fun _ => 0)))]) (fun (u : (Nat → Nat) × (Nat → ClassId)) => [((u.2 0), .int), ((u.2 1), .int), ((u.2 2), .int), ((u.2 3), .int), ((u.2 4), .int), ((u.2 5), .int), ((u.2 6), .byte)])) A) (by decide) rfl (Nat.le_of_ble_eq_true rfl) ?_
  intro p e s m below meth c A ls E hr hlocks hnm hsz hAe hX h hl
  have hx := E.1
  have hb := E.2.1
  have hl : lv_has ls 2 [(0, .ref o6), (1, .ref o5)] := hl
  refine lv_aload_n hx hb dX6_init_0 rfl (lv_at hl 0 rfl) ?_
  refine W.objInit hx hb E.2.2.2.1 (E.2.2.2.2 _ (List.mem_of_getElem? (i := 1) rfl)) (E.2.2.2.2 _ (List.mem_of_getElem? (i := 2) rfl)) (E.2.2.2.2 _ (List.mem_of_getElem? (i := 3) rfl)) rfl (by rw [E.2.2.1]; exact hl.1) rfl dX6_init_1 (Nat.le_of_ble_eq_true rfl) (Nat.le_of_ble_eq_true rfl) ?_
  refine W.eq (g2 := F0 m 4 ls []) rfl ?_
  refine lv_aload_n hx hb dX6_init_4 rfl (lv_at hl 0 rfl) ?_
  refine lv_bipush (v := 10) hx hb dX6_init_5 (by decide) ?_
  refine k_newa (ty := .int) (N' := 10) (a0 := (10, .inl (fun _ => 0))) (k := 1) (z := 10) E h (List.mem_of_getElem? (i := 4) rfl) rfl (fun _ => rfl) (by decide) (by decide) (by decide) (Nat.le_of_ble_eq_true rfl) (Nat.le_of_ble_eq_true rfl) dX6_init_7 (Nat.le_of_ble_eq_true rfl) (Nat.le_of_ble_eq_true rfl) (fun q_1 k_2 H h => ?_)
  have h : KS (dC, dI) A [(o6, .inr (6, [.null, .null, .null, .null, .null, .null, .null, .null, .int 0, .int 0])), (q_1, .inl (k_2, 10, .inl (fun _ => 0)))] [(k_2, .int)] s H _ := h
  refine k_putF (v := .ref q_1) (ty := .array .int) (ws' := [(o6, .inr (6, [.ref q_1, .null, .null, .null, .null, .null, .null, .null, .int 0, .int 0])), (q_1, .inl (k_2, 10, .inl (fun _ => 0)))]) E h (fun w h => List.mem_cons_of_mem _ (List.mem_append_right _ h)) tyX6_ok nmX6 0 rfl rfl 0 (by decide) (List.mem_of_getElem? (i := 5) rfl) rfl hnm rfl (by decide +kernel) rfl rfl (Nat.le_of_ble_eq_true rfl) rfl dX6_init_9 (fun H locs h => ?_)
  refine lv_aload_n hx hb dX6_init_12 rfl (lv_at hl 0 rfl) ?_
  refine lv_bipush (v := 10) hx hb dX6_init_13 (by decide) ?_
  refine k_newa (ty := .int) (N' := 10) (a0 := (10, .inl (fun _ => 0))) (k := 2) (z := 20) E h (List.mem_of_getElem? (i := 4) rfl) rfl (fun _ => rfl) (by decide) (by decide) (by decide) (Nat.le_of_ble_eq_true rfl) (Nat.le_of_ble_eq_true rfl) dX6_init_15 (Nat.le_of_ble_eq_true rfl) (Nat.le_of_ble_eq_true rfl) (fun q_3 k_4 H h => ?_)
  have h : KS (dC, dI) A [(o6, .inr (6, [.ref q_1, .null, .null, .null, .null, .null, .null, .null, .int 0, .int 0])), (q_1, .inl (k_2, 10, .inl (fun _ => 0))), (q_3, .inl (k_4, 10, .inl (fun _ => 0)))] [(k_2, .int), (k_4, .int)] s H _ := h
  refine k_putF (v := .ref q_3) (ty := .array .int) (ws' := [(o6, .inr (6, [.ref q_1, .null, .ref q_3, .null, .null, .null, .null, .null, .int 0, .int 0])), (q_1, .inl (k_2, 10, .inl (fun _ => 0))), (q_3, .inl (k_4, 10, .inl (fun _ => 0)))]) E h (fun w h => List.mem_cons_of_mem _ (List.mem_append_right _ h)) tyX6_ok nmX6 0 rfl rfl 2 (by decide) (List.mem_of_getElem? (i := 6) rfl) rfl hnm rfl (by decide +kernel) rfl rfl (Nat.le_of_ble_eq_true rfl) rfl dX6_init_17 (fun H locs h => ?_)
  refine lv_aload_n hx hb dX6_init_20 rfl (lv_at hl 0 rfl) ?_
  refine lv_bipush (v := 10) hx hb dX6_init_21 (by decide) ?_
  refine k_newa (ty := .int) (N' := 10) (a0 := (10, .inl (fun _ => 0))) (k := 3) (z := 30) E h (List.mem_of_getElem? (i := 4) rfl) rfl (fun _ => rfl) (by decide) (by decide) (by decide) (Nat.le_of_ble_eq_true rfl) (Nat.le_of_ble_eq_true rfl) dX6_init_23 (Nat.le_of_ble_eq_true rfl) (Nat.le_of_ble_eq_true rfl) (fun q_5 k_6 H h => ?_)
  have h : KS (dC, dI) A [(o6, .inr (6, [.ref q_1, .null, .ref q_3, .null, .null, .null, .null, .null, .int 0, .int 0])), (q_1, .inl (k_2, 10, .inl (fun _ => 0))), (q_3, .inl (k_4, 10, .inl (fun _ => 0))), (q_5, .inl (k_6, 10, .inl (fun _ => 0)))] [(k_2, .int), (k_4, .int), (k_6, .int)] s H _ := h
  refine W.eq (g2 := F0 m 25 ls [.ref q_5, .ref o6]) rfl ?_
  refine k_putF (v := .ref q_5) (ty := .array .int) (ws' := [(o6, .inr (6, [.ref q_1, .null, .ref q_3, .ref q_5, .null, .null, .null, .null, .int 0, .int 0])), (q_1, .inl (k_2, 10, .inl (fun _ => 0))), (q_3, .inl (k_4, 10, .inl (fun _ => 0))), (q_5, .inl (k_6, 10, .inl (fun _ => 0)))]) E h (fun w h => List.mem_cons_of_mem _ (List.mem_append_right _ h)) tyX6_ok nmX6 0 rfl rfl 3 (by decide) (List.mem_of_getElem? (i := 7) rfl) rfl hnm rfl (by decide +kernel) rfl rfl (Nat.le_of_ble_eq_true rfl) rfl dX6_init_25 (fun H locs h => ?_)
  refine lv_aload_n hx hb dX6_init_28 rfl (lv_at hl 0 rfl) ?_
  refine lv_bipush (v := 10) hx hb dX6_init_29 (by decide) ?_
  refine k_newa (ty := .int) (N' := 10) (a0 := (10, .inl (fun _ => 0))) (k := 4) (z := 40) E h (List.mem_of_getElem? (i := 4) rfl) rfl (fun _ => rfl) (by decide) (by decide) (by decide) (Nat.le_of_ble_eq_true rfl) (Nat.le_of_ble_eq_true rfl) dX6_init_31 (Nat.le_of_ble_eq_true rfl) (Nat.le_of_ble_eq_true rfl) (fun q_7 k_8 H h => ?_)
  have h : KS (dC, dI) A [(o6, .inr (6, [.ref q_1, .null, .ref q_3, .ref q_5, .null, .null, .null, .null, .int 0, .int 0])), (q_1, .inl (k_2, 10, .inl (fun _ => 0))), (q_3, .inl (k_4, 10, .inl (fun _ => 0))), (q_5, .inl (k_6, 10, .inl (fun _ => 0))), (q_7, .inl (k_8, 10, .inl (fun _ => 0)))] [(k_2, .int), (k_4, .int), (k_6, .int), (k_8, .int)] s H _ := h
  refine k_putF (v := .ref q_7) (ty := .array .int) (ws' := [(o6, .inr (6, [.ref q_1, .null, .ref q_3, .ref q_5, .ref q_7, .null, .null, .null, .int 0, .int 0])), (q_1, .inl (k_2, 10, .inl (fun _ => 0))), (q_3, .inl (k_4, 10, .inl (fun _ => 0))), (q_5, .inl (k_6, 10, .inl (fun _ => 0))), (q_7, .inl (k_8, 10, .inl (fun _ => 0)))]) E h (fun w h => List.mem_cons_of_mem _ (List.mem_append_right _ h)) tyX6_ok nmX6 0 rfl rfl 4 (by decide) (List.mem_of_getElem? (i := 8) rfl) rfl hnm rfl (by decide +kernel) rfl rfl (Nat.le_of_ble_eq_true rfl) rfl dX6_init_33 (fun H locs h => ?_)
  refine lv_aload_n hx hb dX6_init_36 rfl (lv_at hl 0 rfl) ?_
  refine lv_iconst (v := 5) hx hb dX6_init_37 (by decide) ?_
  refine k_newa (ty := .int) (N' := 5) (a0 := (5, .inl (fun _ => 0))) (k := 5) (z := 45) E h (List.mem_of_getElem? (i := 4) rfl) rfl (fun _ => rfl) (by decide) (by decide) (by decide) (Nat.le_of_ble_eq_true rfl) (Nat.le_of_ble_eq_true rfl) dX6_init_38 (Nat.le_of_ble_eq_true rfl) (Nat.le_of_ble_eq_true rfl) (fun q_9 k_10 H h => ?_)
  have h : KS (dC, dI) A [(o6, .inr (6, [.ref q_1, .null, .ref q_3, .ref q_5, .ref q_7, .null, .null, .null, .int 0, .int 0])), (q_1, .inl (k_2, 10, .inl (fun _ => 0))), (q_3, .inl (k_4, 10, .inl (fun _ => 0))), (q_5, .inl (k_6, 10, .inl (fun _ => 0))), (q_7, .inl (k_8, 10, .inl (fun _ => 0))), (q_9, .inl (k_10, 5, .inl (fun _ => 0)))] [(k_2, .int), (k_4, .int), (k_6, .int), (k_8, .int), (k_10, .int)] s H _ := h
  refine k_putF (v := .ref q_9) (ty := .array .int) (ws' := [(o6, .inr (6, [.ref q_1, .null, .ref q_3, .ref q_5, .ref q_7, .ref q_9, .null, .null, .int 0, .int 0])), (q_1, .inl (k_2, 10, .inl (fun _ => 0))), (q_3, .inl (k_4, 10, .inl (fun _ => 0))), (q_5, .inl (k_6, 10, .inl (fun _ => 0))), (q_7, .inl (k_8, 10, .inl (fun _ => 0))), (q_9, .inl (k_10, 5, .inl (fun _ => 0)))]) E h (fun w h => List.mem_cons_of_mem _ (List.mem_append_right _ h)) tyX6_ok nmX6 0 rfl rfl 5 (by decide) (List.mem_of_getElem? (i := 9) rfl) rfl hnm rfl (by decide +kernel) rfl rfl (Nat.le_of_ble_eq_true rfl) rfl dX6_init_40 (fun H locs h => ?_)
  refine lv_aload_n hx hb dX6_init_43 rfl (lv_at hl 0 rfl) ?_
  refine lv_iconst (v := 5) hx hb dX6_init_44 (by decide) ?_
  refine k_newa (ty := .int) (N' := 5) (a0 := (5, .inl (fun _ => 0))) (k := 6) (z := 50) E h (List.mem_of_getElem? (i := 4) rfl) rfl (fun _ => rfl) (by decide) (by decide) (by decide) (Nat.le_of_ble_eq_true rfl) (Nat.le_of_ble_eq_true rfl) dX6_init_45 (Nat.le_of_ble_eq_true rfl) (Nat.le_of_ble_eq_true rfl) (fun q_11 k_12 H h => ?_)
  have h : KS (dC, dI) A [(o6, .inr (6, [.ref q_1, .null, .ref q_3, .ref q_5, .ref q_7, .ref q_9, .null, .null, .int 0, .int 0])), (q_1, .inl (k_2, 10, .inl (fun _ => 0))), (q_3, .inl (k_4, 10, .inl (fun _ => 0))), (q_5, .inl (k_6, 10, .inl (fun _ => 0))), (q_7, .inl (k_8, 10, .inl (fun _ => 0))), (q_9, .inl (k_10, 5, .inl (fun _ => 0))), (q_11, .inl (k_12, 5, .inl (fun _ => 0)))] [(k_2, .int), (k_4, .int), (k_6, .int), (k_8, .int), (k_10, .int), (k_12, .int)] s H _ := h
  refine W.eq (g2 := F0 m 47 ls [.ref q_11, .ref o6]) rfl ?_
  refine k_putF (v := .ref q_11) (ty := .array .int) (ws' := [(o6, .inr (6, [.ref q_1, .null, .ref q_3, .ref q_5, .ref q_7, .ref q_9, .ref q_11, .null, .int 0, .int 0])), (q_1, .inl (k_2, 10, .inl (fun _ => 0))), (q_3, .inl (k_4, 10, .inl (fun _ => 0))), (q_5, .inl (k_6, 10, .inl (fun _ => 0))), (q_7, .inl (k_8, 10, .inl (fun _ => 0))), (q_9, .inl (k_10, 5, .inl (fun _ => 0))), (q_11, .inl (k_12, 5, .inl (fun _ => 0)))]) E h (fun w h => List.mem_cons_of_mem _ (List.mem_append_right _ h)) tyX6_ok nmX6 0 rfl rfl 6 (by decide) (List.mem_of_getElem? (i := 10) rfl) rfl hnm rfl (by decide +kernel) rfl rfl (Nat.le_of_ble_eq_true rfl) rfl dX6_init_47 (fun H locs h => ?_)
  refine lv_aload_n hx hb dX6_init_50 rfl (lv_at hl 0 rfl) ?_
  refine lv_sipush (v := 1024) hx hb dX6_init_51 (by decide) ?_
  refine k_newa (ty := .byte) (N' := 1024) (a0 := (1024, .inl (fun _ => 0))) (k := 7) (z := 1074) E h (List.mem_of_getElem? (i := 11) rfl) rfl (fun _ => rfl) (by decide) (by decide) (by decide) (Nat.le_of_ble_eq_true rfl) (Nat.le_of_ble_eq_true rfl) dX6_init_54 (Nat.le_of_ble_eq_true rfl) (Nat.le_of_ble_eq_true rfl) (fun q_13 k_14 H h => ?_)
  have h : KS (dC, dI) A [(o6, .inr (6, [.ref q_1, .null, .ref q_3, .ref q_5, .ref q_7, .ref q_9, .ref q_11, .null, .int 0, .int 0])), (q_1, .inl (k_2, 10, .inl (fun _ => 0))), (q_3, .inl (k_4, 10, .inl (fun _ => 0))), (q_5, .inl (k_6, 10, .inl (fun _ => 0))), (q_7, .inl (k_8, 10, .inl (fun _ => 0))), (q_9, .inl (k_10, 5, .inl (fun _ => 0))), (q_11, .inl (k_12, 5, .inl (fun _ => 0))), (q_13, .inl (k_14, 1024, .inl (fun _ => 0)))] [(k_2, .int), (k_4, .int), (k_6, .int), (k_8, .int), (k_10, .int), (k_12, .int), (k_14, .byte)] s H _ := h
  refine k_putF (v := .ref q_13) (ty := .array .byte) (ws' := [(o6, .inr (6, [.ref q_1, .null, .ref q_3, .ref q_5, .ref q_7, .ref q_9, .ref q_11, .ref q_13, .int 0, .int 0])), (q_1, .inl (k_2, 10, .inl (fun _ => 0))), (q_3, .inl (k_4, 10, .inl (fun _ => 0))), (q_5, .inl (k_6, 10, .inl (fun _ => 0))), (q_7, .inl (k_8, 10, .inl (fun _ => 0))), (q_9, .inl (k_10, 5, .inl (fun _ => 0))), (q_11, .inl (k_12, 5, .inl (fun _ => 0))), (q_13, .inl (k_14, 1024, .inl (fun _ => 0)))]) E h (fun w h => List.mem_cons_of_mem _ (List.mem_append_right _ h)) tyX6_ok nmX6 0 rfl rfl 7 (by decide) (List.mem_of_getElem? (i := 12) rfl) rfl hnm rfl (by decide +kernel) rfl rfl (Nat.le_of_ble_eq_true rfl) rfl dX6_init_56 (fun H locs h => ?_)
  refine lv_aload_n hx hb dX6_init_59 rfl (lv_at hl 0 rfl) ?_
  refine lv_aload_n hx hb dX6_init_60 rfl (lv_at hl 1 rfl) ?_
  refine k_putF (v := .ref o5) (ty := .object "StepStore$Rows") (ws' := [(o6, .inr (6, [.ref q_1, .ref o5, .ref q_3, .ref q_5, .ref q_7, .ref q_9, .ref q_11, .ref q_13, .int 0, .int 0])), (q_1, .inl (k_2, 10, .inl (fun _ => 0))), (q_3, .inl (k_4, 10, .inl (fun _ => 0))), (q_5, .inl (k_6, 10, .inl (fun _ => 0))), (q_7, .inl (k_8, 10, .inl (fun _ => 0))), (q_9, .inl (k_10, 5, .inl (fun _ => 0))), (q_11, .inl (k_12, 5, .inl (fun _ => 0))), (q_13, .inl (k_14, 1024, .inl (fun _ => 0)))]) E h (fun w h => List.mem_cons_of_mem _ (List.mem_append_right _ h)) tyX6_ok nmX6 0 rfl rfl 1 (by decide) (List.mem_of_getElem? (i := 13) rfl) rfl hnm rfl (by decide +kernel) rfl rfl (Nat.le_of_ble_eq_true rfl) rfl dX6_init_61 (fun H locs h => ?_)
  have hP9 := h.2.1.sub [0, 1, 2, 3, 4, 5, 6, 7] rfl
  have hD9 := h.2.2.1.sub (ws' := [(o6, .inr (6, [.ref q_1, .ref o5, .ref q_3, .ref q_5, .ref q_7, .ref q_9, .ref q_11, .ref q_13, .int 0, .int 0])), (q_1, .inl (k_2, 10, .inl (fun _ => 0))), (q_3, .inl (k_4, 10, .inl (fun _ => 0))), (q_5, .inl (k_6, 10, .inl (fun _ => 0))), (q_7, .inl (k_8, 10, .inl (fun _ => 0))), (q_9, .inl (k_10, 5, .inl (fun _ => 0))), (q_11, .inl (k_12, 5, .inl (fun _ => 0))), (q_13, .inl (k_14, 1024, .inl (fun _ => 0)))]) [0, 1, 2, 3, 4, 5, 6, 7] (by decide) rfl
  have hK9 := h.1.sub (tys' := [(k_2, .int), (k_4, .int), (k_6, .int), (k_8, .int), (k_10, .int), (k_12, .int), (k_14, .byte)]) [0, 1, 2, 3, 4, 5, 6] rfl
  exact W.vret hx hb hr (fun t ht hW => ⟨⟨(fun i => [q_1, q_3, q_5, q_7, q_9, q_11, q_13].getD i 0, fun i => [k_2, k_4, k_6, k_8, k_10, k_12, k_14].getD i 0), rfl, trivial, (by rw [ht]; exact hP9), hD9, va_K.moved hW.alike hK9⟩, h.2.2.2.1.F ht⟩) h.2.2.2.1.2.2 dX6_init_64 hlocks
set_option maxHeartbeats 4000000 in
set_option maxRecDepth 100000 in
theorem c_X3_init (l : Launch) (dC : Nat → ClassId) (dI : Nat → Nat → Nat) (sz : Nat) (o3 : Nat) (o5 : Nat)  : Met l yX3_init wsX3_init ({ frames := 2, cells := 12, slots := 1348, locals := 41 } : Room) (va_Pc [.ref o3, .ref o5] (KPre (dC, dI) [(o3, .inr (3, [.null, .null, .null, .null, .int 0, .null, .null]))] [] sz (fun _ => True))) (va_Qv (fun (u : (Nat → Nat) × (Nat → ClassId) × Nat × (Nat → Nat) × (Nat → ClassId)) => True) (KPostK (dC, dI) (va_A [(o3, .inr (3, [.null, .null, .null, .null, .int 0, .null, .null]))] sz) (fun (u : (Nat → Nat) × (Nat → ClassId) × Nat × (Nat → Nat) × (Nat → ClassId)) => [(o3, .inr (3, [.ref (u.1 0), .ref (u.1 1), .ref (u.1 2), .ref (u.1 3), .int 1, .ref o5, .ref u.2.2.1])), ((u.1 0), .inl ((u.2.1 0), 12, .inl (fun _ => 0))), ((u.1 1), .inl ((u.2.1 1), 12, .inl (fun _ => 0))), ((u.1 2), .inl ((u.2.1 2), 120, .inl (fun _ => 0))), ((u.1 3), .inl ((u.2.1 3), 120, .inl (fun _ => 0))), (u.2.2.1, .inr (6, [.ref (u.2.2.2.1 0), .ref o5, .ref (u.2.2.2.1 1), .ref (u.2.2.2.1 2), .ref (u.2.2.2.1 3), .ref (u.2.2.2.1 4), .ref (u.2.2.2.1 5), .ref (u.2.2.2.1 6), .int 0, .int 0])), ((u.2.2.2.1 0), .inl ((u.2.2.2.2 0), 10, .inl (fun _ => 0))), ((u.2.2.2.1 1), .inl ((u.2.2.2.2 1), 10, .inl (fun _ => 0))), ((u.2.2.2.1 2), .inl ((u.2.2.2.2 2), 10, .inl (fun _ => 0))), ((u.2.2.2.1 3), .inl ((u.2.2.2.2 3), 10, .inl (fun _ => 0))), ((u.2.2.2.1 4), .inl ((u.2.2.2.2 4), 5, .inl (fun _ => 0))), ((u.2.2.2.1 5), .inl ((u.2.2.2.2 5), 5, .inl (fun _ => 0))), ((u.2.2.2.1 6), .inl ((u.2.2.2.2 6), 1024, .inl (fun _ => 0)))]) (fun (u : (Nat → Nat) × (Nat → ClassId) × Nat × (Nat → Nat) × (Nat → ClassId)) => [((u.2.1 0), .boolean), ((u.2.1 1), .int), ((u.2.1 2), .int), ((u.2.1 3), .int), ((u.2.2.2.2 0), .int), ((u.2.2.2.2 1), .int), ((u.2.2.2.2 2), .int), ((u.2.2.2.2 3), .int), ((u.2.2.2.2 4), .int), ((u.2.2.2.2 5), .int), ((u.2.2.2.2 6), .byte)])) (va_A [(o3, .inr (3, [.null, .null, .null, .null, .int 0, .null, .null]))] sz)) 12 1348 (va_A [(o3, .inr (3, [.null, .null, .null, .null, .int 0, .null, .null]))] sz) := by
  refine kMet (y := yX3_init) (wsM := wsX3_init) (cc := cX3_init) (maxL := 2) (ret := none) (rm := ({ frames := 2, cells := 12, slots := 1348, locals := 41 } : Room)) (mc := 12) (ms := 1348) (av := [.ref o3, .ref o5]) (D := (dC, dI)) (wc := [(o3, .inr (3, [.null, .null, .null, .null, .int 0, .null, .null]))]) (tc := []) (sz := sz) (X := fun _ => True) (Qc := fun A => va_Qv (fun (u : (Nat → Nat) × (Nat → ClassId) × Nat × (Nat → Nat) × (Nat → ClassId)) => True) (KPostK (dC, dI) A (fun (u : (Nat → Nat) × (Nat → ClassId) × Nat × (Nat → Nat) × (Nat → ClassId)) => [(o3, .inr (3, [.ref (u.1 0), .ref (u.1 1), .ref (u.1 2), .ref (u.1 3), .int 1, .ref o5, .ref u.2.2.1])), ((u.1 0), .inl ((u.2.1 0), 12, .inl (fun _ => 0))), ((u.1 1), .inl ((u.2.1 1), 12, .inl (fun _ => 0))), ((u.1 2), .inl ((u.2.1 2), 120, .inl (fun _ => 0))), ((u.1 3), .inl ((u.2.1 3), 120, .inl (fun _ => 0))), (u.2.2.1, .inr (6, [.ref (u.2.2.2.1 0), .ref o5, .ref (u.2.2.2.1 1), .ref (u.2.2.2.1 2), .ref (u.2.2.2.1 3), .ref (u.2.2.2.1 4), .ref (u.2.2.2.1 5), .ref (u.2.2.2.1 6), .int 0, .int 0])), ((u.2.2.2.1 0), .inl ((u.2.2.2.2 0), 10, .inl (fun _ => 0))), ((u.2.2.2.1 1), .inl ((u.2.2.2.2 1), 10, .inl (fun _ => 0))), ((u.2.2.2.1 2), .inl ((u.2.2.2.2 2), 10, .inl (fun _ => 0))), ((u.2.2.2.1 3), .inl ((u.2.2.2.2 3), 10, .inl (fun _ => 0))), ((u.2.2.2.1 4), .inl ((u.2.2.2.2 4), 5, .inl (fun _ => 0))), ((u.2.2.2.1 5), .inl ((u.2.2.2.2 5), 5, .inl (fun _ => 0))), ((u.2.2.2.1 6), .inl ((u.2.2.2.2 6), 1024, .inl (fun _ => 0)))]) (fun (u : (Nat → Nat) × (Nat → ClassId) × Nat × (Nat → Nat) × (Nat → ClassId)) => [((u.2.1 0), .boolean), ((u.2.1 1), .int), ((u.2.1 2), .int), ((u.2.1 3), .int), ((u.2.2.2.2 0), .int), ((u.2.2.2.2 1), .int), ((u.2.2.2.2 2), .int), ((u.2.2.2.2 3), .int), ((u.2.2.2.2 4), .int), ((u.2.2.2.2 5), .int), ((u.2.2.2.2 6), .byte)])) A) (by decide) rfl (Nat.le_of_ble_eq_true rfl) ?_
  intro p e s m below meth c A ls E hr hlocks hnm hsz hAe hX h hl
  have hx := E.1
  have hb := E.2.1
  have hl : lv_has ls 2 [(0, .ref o3), (1, .ref o5)] := hl
  refine lv_aload_n hx hb dX3_init_0 rfl (lv_at hl 0 rfl) ?_
  refine W.objInit hx hb E.2.2.2.1 (E.2.2.2.2 _ (List.mem_of_getElem? (i := 1) rfl)) (E.2.2.2.2 _ (List.mem_of_getElem? (i := 2) rfl)) (E.2.2.2.2 _ (List.mem_of_getElem? (i := 3) rfl)) rfl (by rw [E.2.2.1]; exact hl.1) rfl dX3_init_1 (Nat.le_of_ble_eq_true rfl) (Nat.le_of_ble_eq_true rfl) ?_
  refine W.eq (g2 := F0 m 4 ls []) rfl ?_
  refine lv_aload_n hx hb dX3_init_4 rfl (lv_at hl 0 rfl) ?_
  refine lv_bipush (v := 12) hx hb dX3_init_5 (by decide) ?_
  refine k_newa (ty := .boolean) (N' := 12) (a0 := (12, .inl (fun _ => 0))) (k := 1) (z := 12) E h (List.mem_of_getElem? (i := 4) rfl) rfl (fun _ => rfl) (by decide) (by decide) (by decide) (Nat.le_of_ble_eq_true rfl) (Nat.le_of_ble_eq_true rfl) dX3_init_7 (Nat.le_of_ble_eq_true rfl) (Nat.le_of_ble_eq_true rfl) (fun q_1 k_2 H h => ?_)
  have h : KS (dC, dI) A [(o3, .inr (3, [.null, .null, .null, .null, .int 0, .null, .null])), (q_1, .inl (k_2, 12, .inl (fun _ => 0)))] [(k_2, .boolean)] s H _ := h
  refine k_putF (v := .ref q_1) (ty := .array .boolean) (ws' := [(o3, .inr (3, [.ref q_1, .null, .null, .null, .int 0, .null, .null])), (q_1, .inl (k_2, 12, .inl (fun _ => 0)))]) E h (fun w h => List.mem_cons_of_mem _ (List.mem_append_left _ (List.mem_append_right _ h))) tyX3_ok nmX3 0 rfl rfl 0 (by decide) (List.mem_of_getElem? (i := 5) rfl) rfl hnm rfl (by decide +kernel) rfl rfl (Nat.le_of_ble_eq_true rfl) rfl dX3_init_9 (fun H locs h => ?_)
  refine lv_aload_n hx hb dX3_init_12 rfl (lv_at hl 0 rfl) ?_
  refine lv_bipush (v := 12) hx hb dX3_init_13 (by decide) ?_
  refine k_newa (ty := .int) (N' := 12) (a0 := (12, .inl (fun _ => 0))) (k := 2) (z := 24) E h (List.mem_of_getElem? (i := 6) rfl) rfl (fun _ => rfl) (by decide) (by decide) (by decide) (Nat.le_of_ble_eq_true rfl) (Nat.le_of_ble_eq_true rfl) dX3_init_15 (Nat.le_of_ble_eq_true rfl) (Nat.le_of_ble_eq_true rfl) (fun q_3 k_4 H h => ?_)
  have h : KS (dC, dI) A [(o3, .inr (3, [.ref q_1, .null, .null, .null, .int 0, .null, .null])), (q_1, .inl (k_2, 12, .inl (fun _ => 0))), (q_3, .inl (k_4, 12, .inl (fun _ => 0)))] [(k_2, .boolean), (k_4, .int)] s H _ := h
  refine k_putF (v := .ref q_3) (ty := .array .int) (ws' := [(o3, .inr (3, [.ref q_1, .ref q_3, .null, .null, .int 0, .null, .null])), (q_1, .inl (k_2, 12, .inl (fun _ => 0))), (q_3, .inl (k_4, 12, .inl (fun _ => 0)))]) E h (fun w h => List.mem_cons_of_mem _ (List.mem_append_left _ (List.mem_append_right _ h))) tyX3_ok nmX3 0 rfl rfl 1 (by decide) (List.mem_of_getElem? (i := 7) rfl) rfl hnm rfl (by decide +kernel) rfl rfl (Nat.le_of_ble_eq_true rfl) rfl dX3_init_17 (fun H locs h => ?_)
  refine lv_aload_n hx hb dX3_init_20 rfl (lv_at hl 0 rfl) ?_
  refine lv_bipush (v := 120) hx hb dX3_init_21 (by decide) ?_
  refine k_newa (ty := .int) (N' := 120) (a0 := (120, .inl (fun _ => 0))) (k := 3) (z := 144) E h (List.mem_of_getElem? (i := 6) rfl) rfl (fun _ => rfl) (by decide) (by decide) (by decide) (Nat.le_of_ble_eq_true rfl) (Nat.le_of_ble_eq_true rfl) dX3_init_23 (Nat.le_of_ble_eq_true rfl) (Nat.le_of_ble_eq_true rfl) (fun q_5 k_6 H h => ?_)
  have h : KS (dC, dI) A [(o3, .inr (3, [.ref q_1, .ref q_3, .null, .null, .int 0, .null, .null])), (q_1, .inl (k_2, 12, .inl (fun _ => 0))), (q_3, .inl (k_4, 12, .inl (fun _ => 0))), (q_5, .inl (k_6, 120, .inl (fun _ => 0)))] [(k_2, .boolean), (k_4, .int), (k_6, .int)] s H _ := h
  refine W.eq (g2 := F0 m 25 ls [.ref q_5, .ref o3]) rfl ?_
  refine k_putF (v := .ref q_5) (ty := .array .int) (ws' := [(o3, .inr (3, [.ref q_1, .ref q_3, .ref q_5, .null, .int 0, .null, .null])), (q_1, .inl (k_2, 12, .inl (fun _ => 0))), (q_3, .inl (k_4, 12, .inl (fun _ => 0))), (q_5, .inl (k_6, 120, .inl (fun _ => 0)))]) E h (fun w h => List.mem_cons_of_mem _ (List.mem_append_left _ (List.mem_append_right _ h))) tyX3_ok nmX3 0 rfl rfl 2 (by decide) (List.mem_of_getElem? (i := 8) rfl) rfl hnm rfl (by decide +kernel) rfl rfl (Nat.le_of_ble_eq_true rfl) rfl dX3_init_25 (fun H locs h => ?_)
  refine lv_aload_n hx hb dX3_init_28 rfl (lv_at hl 0 rfl) ?_
  refine lv_bipush (v := 120) hx hb dX3_init_29 (by decide) ?_
  refine k_newa (ty := .int) (N' := 120) (a0 := (120, .inl (fun _ => 0))) (k := 4) (z := 264) E h (List.mem_of_getElem? (i := 6) rfl) rfl (fun _ => rfl) (by decide) (by decide) (by decide) (Nat.le_of_ble_eq_true rfl) (Nat.le_of_ble_eq_true rfl) dX3_init_31 (Nat.le_of_ble_eq_true rfl) (Nat.le_of_ble_eq_true rfl) (fun q_7 k_8 H h => ?_)
  have h : KS (dC, dI) A [(o3, .inr (3, [.ref q_1, .ref q_3, .ref q_5, .null, .int 0, .null, .null])), (q_1, .inl (k_2, 12, .inl (fun _ => 0))), (q_3, .inl (k_4, 12, .inl (fun _ => 0))), (q_5, .inl (k_6, 120, .inl (fun _ => 0))), (q_7, .inl (k_8, 120, .inl (fun _ => 0)))] [(k_2, .boolean), (k_4, .int), (k_6, .int), (k_8, .int)] s H _ := h
  refine k_putF (v := .ref q_7) (ty := .array .int) (ws' := [(o3, .inr (3, [.ref q_1, .ref q_3, .ref q_5, .ref q_7, .int 0, .null, .null])), (q_1, .inl (k_2, 12, .inl (fun _ => 0))), (q_3, .inl (k_4, 12, .inl (fun _ => 0))), (q_5, .inl (k_6, 120, .inl (fun _ => 0))), (q_7, .inl (k_8, 120, .inl (fun _ => 0)))]) E h (fun w h => List.mem_cons_of_mem _ (List.mem_append_left _ (List.mem_append_right _ h))) tyX3_ok nmX3 0 rfl rfl 3 (by decide) (List.mem_of_getElem? (i := 9) rfl) rfl hnm rfl (by decide +kernel) rfl rfl (Nat.le_of_ble_eq_true rfl) rfl dX3_init_33 (fun H locs h => ?_)
  refine lv_aload_n hx hb dX3_init_36 rfl (lv_at hl 0 rfl) ?_
  refine lv_iconst (v := 1) hx hb dX3_init_37 (by decide) ?_
  refine k_put (v := .int 1) (ty := .int) (ws' := [(o3, .inr (3, [.ref q_1, .ref q_3, .ref q_5, .ref q_7, .int 1, .null, .null])), (q_1, .inl (k_2, 12, .inl (fun _ => 0))), (q_3, .inl (k_4, 12, .inl (fun _ => 0))), (q_5, .inl (k_6, 120, .inl (fun _ => 0))), (q_7, .inl (k_8, 120, .inl (fun _ => 0)))]) E h (fun w h => List.mem_cons_of_mem _ (List.mem_append_left _ (List.mem_append_right _ h))) tyX3_ok nmX3 0 rfl rfl 4 (by decide) (List.mem_of_getElem? (i := 10) rfl) rfl (by decide +kernel) rfl rfl (Nat.le_of_ble_eq_true rfl) rfl dX3_init_38 (fun H locs h => ?_)
  refine lv_aload_n hx hb dX3_init_41 rfl (lv_at hl 0 rfl) ?_
  refine lv_aload_n hx hb dX3_init_42 rfl (lv_at hl 1 rfl) ?_
  refine k_putF (v := .ref o5) (ty := .object "StepStore$Rows") (ws' := [(o3, .inr (3, [.ref q_1, .ref q_3, .ref q_5, .ref q_7, .int 1, .ref o5, .null])), (q_1, .inl (k_2, 12, .inl (fun _ => 0))), (q_3, .inl (k_4, 12, .inl (fun _ => 0))), (q_5, .inl (k_6, 120, .inl (fun _ => 0))), (q_7, .inl (k_8, 120, .inl (fun _ => 0)))]) E h (fun w h => List.mem_cons_of_mem _ (List.mem_append_left _ (List.mem_append_right _ h))) tyX3_ok nmX3 0 rfl rfl 5 (by decide) (List.mem_of_getElem? (i := 11) rfl) rfl hnm rfl (by decide +kernel) rfl rfl (Nat.le_of_ble_eq_true rfl) rfl dX3_init_43 (fun H locs h => ?_)
  refine lv_aload_n hx hb dX3_init_46 rfl (lv_at hl 0 rfl) ?_
  refine W.eq (g2 := F0 m 47 ls [.ref o3]) rfl ?_
  refine k_new (ci := 6) (fs := [.null, .null, .null, .null, .null, .null, .null, .null, .int 0, .int 0]) (k := 5) (n := 274) E h (fun w h => List.mem_cons_of_mem _ (List.mem_append_right _ h)) tyX6_ok (List.mem_of_getElem? (i := 12) rfl) (List.mem_of_getElem? (i := 13) rfl) (List.mem_of_getElem? (i := 14) rfl) rfl (fun j hj => by rcases (show j = 0 ∨ j = 1 ∨ j = 2 ∨ j = 3 ∨ j = 4 ∨ j = 5 ∨ j = 6 ∨ j = 7 ∨ j = 8 ∨ j = 9 by omega) with rfl | rfl | rfl | rfl | rfl | rfl | rfl | rfl | rfl | rfl <;> rfl) (Nat.le_of_ble_eq_true rfl) (Nat.le_of_ble_eq_true rfl) dX3_init_47 (Nat.le_of_ble_eq_true rfl) (Nat.le_of_ble_eq_true rfl) (fun q_9 H h => ?_)
  have h : KS (dC, dI) A [(o3, .inr (3, [.ref q_1, .ref q_3, .ref q_5, .ref q_7, .int 1, .ref o5, .null])), (q_1, .inl (k_2, 12, .inl (fun _ => 0))), (q_3, .inl (k_4, 12, .inl (fun _ => 0))), (q_5, .inl (k_6, 120, .inl (fun _ => 0))), (q_7, .inl (k_8, 120, .inl (fun _ => 0))), (q_9, .inr (6, [.null, .null, .null, .null, .null, .null, .null, .null, .int 0, .int 0]))] [(k_2, .boolean), (k_4, .int), (k_6, .int), (k_8, .int)] s H _ := h
  refine lv_dup hx hb dX3_init_50 rfl ?_
  refine lv_aload_n hx hb dX3_init_51 rfl (lv_at hl 1 rfl) ?_
  refine kc_vK (k := 12) (n := 1348) (wc := [(q_9, .inr (6, [.null, .null, .null, .null, .null, .null, .null, .null, .int 0, .int 0]))]) (wr := [(o3, .inr (3, [.ref q_1, .ref q_3, .ref q_5, .ref q_7, .int 1, .ref o5, .null])), (q_1, .inl (k_2, 12, .inl (fun _ => 0))), (q_3, .inl (k_4, 12, .inl (fun _ => 0))), (q_5, .inl (k_6, 120, .inl (fun _ => 0))), (q_7, .inl (k_8, 120, .inl (fun _ => 0)))]) h (va_runI (As := [.ref o5]) (rest := [.ref q_9, .ref o3]) E (c_X6_init l dC dI _ (o6 := q_9) (o5 := o5)  ) (cwI 1 E.2.2.2.2 gX3_init_X6_init rfl rfl rfl (E.2.2.2.2 _ (List.mem_of_getElem? (i := 14) rfl)) (E.2.2.2.2 _ (List.mem_of_getElem? (i := 16) rfl)) (E.2.2.2.2 _ (List.mem_of_getElem? (i := 17) rfl)) rfl (by decide +kernel) ⟨Nat.le_of_ble_eq_true rfl, Nat.le_of_ble_eq_true rfl⟩) (kPreS h KX_true (fun _ _ _ => trivial) [5] [] (by decide) rfl rfl) rfl rfl hl.1 rfl (lv_room (Nat.le_of_ble_eq_true rfl)) dX3_init_52 ⟨Nat.le_of_ble_eq_true rfl, Nat.le_of_ble_eq_true rfl⟩) [5] [0, 1, 2, 3, 4] rfl rfl (by decide) (by decide) (Nat.le_of_ble_eq_true rfl) (Nat.le_of_ble_eq_true rfl) (fun u_10 H locs hw_10 h => ?_)
  obtain ⟨z_11, z_12⟩ := u_10
  have h : KS (dC, dI) A [(o3, .inr (3, [.ref q_1, .ref q_3, .ref q_5, .ref q_7, .int 1, .ref o5, .null])), (q_1, .inl (k_2, 12, .inl (fun _ => 0))), (q_3, .inl (k_4, 12, .inl (fun _ => 0))), (q_5, .inl (k_6, 120, .inl (fun _ => 0))), (q_7, .inl (k_8, 120, .inl (fun _ => 0))), (q_9, .inr (6, [.ref (z_11 0), .ref o5, .ref (z_11 1), .ref (z_11 2), .ref (z_11 3), .ref (z_11 4), .ref (z_11 5), .ref (z_11 6), .int 0, .int 0])), ((z_11 0), .inl ((z_12 0), 10, .inl (fun _ => 0))), ((z_11 1), .inl ((z_12 1), 10, .inl (fun _ => 0))), ((z_11 2), .inl ((z_12 2), 10, .inl (fun _ => 0))), ((z_11 3), .inl ((z_12 3), 10, .inl (fun _ => 0))), ((z_11 4), .inl ((z_12 4), 5, .inl (fun _ => 0))), ((z_11 5), .inl ((z_12 5), 5, .inl (fun _ => 0))), ((z_11 6), .inl ((z_12 6), 1024, .inl (fun _ => 0)))] [(k_2, .boolean), (k_4, .int), (k_6, .int), (k_8, .int), ((z_12 0), .int), ((z_12 1), .int), ((z_12 2), .int), ((z_12 3), .int), ((z_12 4), .int), ((z_12 5), .int), ((z_12 6), .byte)] s H locs := h
  refine W.eq (g2 := F0 m 55 ls [.ref q_9, .ref o3]) rfl ?_
  refine k_putF (v := .ref q_9) (ty := .object "StepStore$Search") (ws' := [(o3, .inr (3, [.ref q_1, .ref q_3, .ref q_5, .ref q_7, .int 1, .ref o5, .ref q_9])), (q_1, .inl (k_2, 12, .inl (fun _ => 0))), (q_3, .inl (k_4, 12, .inl (fun _ => 0))), (q_5, .inl (k_6, 120, .inl (fun _ => 0))), (q_7, .inl (k_8, 120, .inl (fun _ => 0))), (q_9, .inr (6, [.ref (z_11 0), .ref o5, .ref (z_11 1), .ref (z_11 2), .ref (z_11 3), .ref (z_11 4), .ref (z_11 5), .ref (z_11 6), .int 0, .int 0])), ((z_11 0), .inl ((z_12 0), 10, .inl (fun _ => 0))), ((z_11 1), .inl ((z_12 1), 10, .inl (fun _ => 0))), ((z_11 2), .inl ((z_12 2), 10, .inl (fun _ => 0))), ((z_11 3), .inl ((z_12 3), 10, .inl (fun _ => 0))), ((z_11 4), .inl ((z_12 4), 5, .inl (fun _ => 0))), ((z_11 5), .inl ((z_12 5), 5, .inl (fun _ => 0))), ((z_11 6), .inl ((z_12 6), 1024, .inl (fun _ => 0)))]) E h (fun w h => List.mem_cons_of_mem _ (List.mem_append_left _ (List.mem_append_right _ h))) tyX3_ok nmX3 0 rfl rfl 6 (by decide) (List.mem_of_getElem? (i := 15) rfl) rfl hnm rfl (by decide +kernel) rfl rfl (Nat.le_of_ble_eq_true rfl) rfl dX3_init_55 (fun H locs h => ?_)
  have hP9 := h.2.1.sub [0, 1, 2, 3, 4, 5, 6, 7, 8, 9, 10, 11, 12] rfl
  have hD9 := h.2.2.1.sub (ws' := [(o3, .inr (3, [.ref q_1, .ref q_3, .ref q_5, .ref q_7, .int 1, .ref o5, .ref q_9])), (q_1, .inl (k_2, 12, .inl (fun _ => 0))), (q_3, .inl (k_4, 12, .inl (fun _ => 0))), (q_5, .inl (k_6, 120, .inl (fun _ => 0))), (q_7, .inl (k_8, 120, .inl (fun _ => 0))), (q_9, .inr (6, [.ref (z_11 0), .ref o5, .ref (z_11 1), .ref (z_11 2), .ref (z_11 3), .ref (z_11 4), .ref (z_11 5), .ref (z_11 6), .int 0, .int 0])), ((z_11 0), .inl ((z_12 0), 10, .inl (fun _ => 0))), ((z_11 1), .inl ((z_12 1), 10, .inl (fun _ => 0))), ((z_11 2), .inl ((z_12 2), 10, .inl (fun _ => 0))), ((z_11 3), .inl ((z_12 3), 10, .inl (fun _ => 0))), ((z_11 4), .inl ((z_12 4), 5, .inl (fun _ => 0))), ((z_11 5), .inl ((z_12 5), 5, .inl (fun _ => 0))), ((z_11 6), .inl ((z_12 6), 1024, .inl (fun _ => 0)))]) [0, 1, 2, 3, 4, 5, 6, 7, 8, 9, 10, 11, 12] (by decide) rfl
  have hK9 := h.1.sub (tys' := [(k_2, .boolean), (k_4, .int), (k_6, .int), (k_8, .int), ((z_12 0), .int), ((z_12 1), .int), ((z_12 2), .int), ((z_12 3), .int), ((z_12 4), .int), ((z_12 5), .int), ((z_12 6), .byte)]) [0, 1, 2, 3, 4, 5, 6, 7, 8, 9, 10] rfl
  exact W.vret hx hb hr (fun t ht hW => ⟨⟨(fun i => [q_1, q_3, q_5, q_7].getD i 0, fun i => [k_2, k_4, k_6, k_8].getD i 0, q_9, fun i => [(z_11 0), (z_11 1), (z_11 2), (z_11 3), (z_11 4), (z_11 5), (z_11 6)].getD i 0, fun i => [(z_12 0), (z_12 1), (z_12 2), (z_12 3), (z_12 4), (z_12 5), (z_12 6)].getD i 0), rfl, trivial, (by rw [ht]; exact hP9), hD9, va_K.moved hW.alike hK9⟩, h.2.2.2.1.F ht⟩) h.2.2.2.1.2.2 dX3_init_58 hlocks
set_option maxHeartbeats 4000000 in
set_option maxRecDepth 100000 in
theorem c_X4_init (l : Launch) (dC : Nat → ClassId) (dI : Nat → Nat → Nat) (sz : Nat) (o4 : Nat) (o5 : Nat) (o3 : Nat)  : Met l yX4_init wsX4_init ({ frames := 1, cells := 5, slots := 600, locals := 20 } : Room) (va_Pc [.ref o4, .ref o5, .ref o3] (KPre (dC, dI) [(o4, .inr (4, [.int 0, .int 0, .null, .null, .null, .null, .null, .null, .null]))] [] sz (fun _ => True))) (va_Qv (fun (u : (Nat → Nat) × (Nat → ClassId)) => True) (KPostK (dC, dI) (va_A [(o4, .inr (4, [.int 0, .int 0, .null, .null, .null, .null, .null, .null, .null]))] sz) (fun (u : (Nat → Nat) × (Nat → ClassId)) => [(o4, .inr (4, [.int 0, .int 0, .ref (u.1 0), .ref (u.1 1), .ref (u.1 2), .ref (u.1 3), .ref (u.1 4), .ref o5, .ref o3])), ((u.1 0), .inl ((u.2 0), 120, .inl (fun _ => 0))), ((u.1 1), .inl ((u.2 1), 120, .inl (fun _ => 0))), ((u.1 2), .inl ((u.2 2), 120, .inl (fun _ => 0))), ((u.1 3), .inl ((u.2 3), 120, .inl (fun _ => 0))), ((u.1 4), .inl ((u.2 4), 120, .inl (fun _ => 0)))]) (fun (u : (Nat → Nat) × (Nat → ClassId)) => [((u.2 0), .int), ((u.2 1), .int), ((u.2 2), .int), ((u.2 3), .int), ((u.2 4), .int)])) (va_A [(o4, .inr (4, [.int 0, .int 0, .null, .null, .null, .null, .null, .null, .null]))] sz)) 5 600 (va_A [(o4, .inr (4, [.int 0, .int 0, .null, .null, .null, .null, .null, .null, .null]))] sz) := by
  refine kMet (y := yX4_init) (wsM := wsX4_init) (cc := cX4_init) (maxL := 3) (ret := none) (rm := ({ frames := 1, cells := 5, slots := 600, locals := 20 } : Room)) (mc := 5) (ms := 600) (av := [.ref o4, .ref o5, .ref o3]) (D := (dC, dI)) (wc := [(o4, .inr (4, [.int 0, .int 0, .null, .null, .null, .null, .null, .null, .null]))]) (tc := []) (sz := sz) (X := fun _ => True) (Qc := fun A => va_Qv (fun (u : (Nat → Nat) × (Nat → ClassId)) => True) (KPostK (dC, dI) A (fun (u : (Nat → Nat) × (Nat → ClassId)) => [(o4, .inr (4, [.int 0, .int 0, .ref (u.1 0), .ref (u.1 1), .ref (u.1 2), .ref (u.1 3), .ref (u.1 4), .ref o5, .ref o3])), ((u.1 0), .inl ((u.2 0), 120, .inl (fun _ => 0))), ((u.1 1), .inl ((u.2 1), 120, .inl (fun _ => 0))), ((u.1 2), .inl ((u.2 2), 120, .inl (fun _ => 0))), ((u.1 3), .inl ((u.2 3), 120, .inl (fun _ => 0))), ((u.1 4), .inl ((u.2 4), 120, .inl (fun _ => 0)))]) (fun (u : (Nat → Nat) × (Nat → ClassId)) => [((u.2 0), .int), ((u.2 1), .int), ((u.2 2), .int), ((u.2 3), .int), ((u.2 4), .int)])) A) (by decide) rfl (Nat.le_of_ble_eq_true rfl) ?_
  intro p e s m below meth c A ls E hr hlocks hnm hsz hAe hX h hl
  have hx := E.1
  have hb := E.2.1
  have hl : lv_has ls 3 [(0, .ref o4), (1, .ref o5), (2, .ref o3)] := hl
  refine lv_aload_n hx hb dX4_init_0 rfl (lv_at hl 0 rfl) ?_
  refine W.objInit hx hb E.2.2.2.1 (E.2.2.2.2 _ (List.mem_of_getElem? (i := 1) rfl)) (E.2.2.2.2 _ (List.mem_of_getElem? (i := 2) rfl)) (E.2.2.2.2 _ (List.mem_of_getElem? (i := 3) rfl)) rfl (by rw [E.2.2.1]; exact hl.1) rfl dX4_init_1 (Nat.le_of_ble_eq_true rfl) (Nat.le_of_ble_eq_true rfl) ?_
  refine W.eq (g2 := F0 m 4 ls []) rfl ?_
  refine lv_aload_n hx hb dX4_init_4 rfl (lv_at hl 0 rfl) ?_
  refine lv_bipush (v := 120) hx hb dX4_init_5 (by decide) ?_
  refine k_newa (ty := .int) (N' := 120) (a0 := (120, .inl (fun _ => 0))) (k := 1) (z := 120) E h (List.mem_of_getElem? (i := 4) rfl) rfl (fun _ => rfl) (by decide) (by decide) (by decide) (Nat.le_of_ble_eq_true rfl) (Nat.le_of_ble_eq_true rfl) dX4_init_7 (Nat.le_of_ble_eq_true rfl) (Nat.le_of_ble_eq_true rfl) (fun q_1 k_2 H h => ?_)
  have h : KS (dC, dI) A [(o4, .inr (4, [.int 0, .int 0, .null, .null, .null, .null, .null, .null, .null])), (q_1, .inl (k_2, 120, .inl (fun _ => 0)))] [(k_2, .int)] s H _ := h
  refine k_putF (v := .ref q_1) (ty := .array .int) (ws' := [(o4, .inr (4, [.int 0, .int 0, .ref q_1, .null, .null, .null, .null, .null, .null])), (q_1, .inl (k_2, 120, .inl (fun _ => 0)))]) E h (fun w h => List.mem_cons_of_mem _ (List.mem_append_right _ h)) tyX4_ok nmX4 0 rfl rfl 2 (by decide) (List.mem_of_getElem? (i := 5) rfl) rfl hnm rfl (by decide +kernel) rfl rfl (Nat.le_of_ble_eq_true rfl) rfl dX4_init_9 (fun H locs h => ?_)
  refine lv_aload_n hx hb dX4_init_12 rfl (lv_at hl 0 rfl) ?_
  refine lv_bipush (v := 120) hx hb dX4_init_13 (by decide) ?_
  refine k_newa (ty := .int) (N' := 120) (a0 := (120, .inl (fun _ => 0))) (k := 2) (z := 240) E h (List.mem_of_getElem? (i := 4) rfl) rfl (fun _ => rfl) (by decide) (by decide) (by decide) (Nat.le_of_ble_eq_true rfl) (Nat.le_of_ble_eq_true rfl) dX4_init_15 (Nat.le_of_ble_eq_true rfl) (Nat.le_of_ble_eq_true rfl) (fun q_3 k_4 H h => ?_)
  have h : KS (dC, dI) A [(o4, .inr (4, [.int 0, .int 0, .ref q_1, .null, .null, .null, .null, .null, .null])), (q_1, .inl (k_2, 120, .inl (fun _ => 0))), (q_3, .inl (k_4, 120, .inl (fun _ => 0)))] [(k_2, .int), (k_4, .int)] s H _ := h
  refine k_putF (v := .ref q_3) (ty := .array .int) (ws' := [(o4, .inr (4, [.int 0, .int 0, .ref q_1, .ref q_3, .null, .null, .null, .null, .null])), (q_1, .inl (k_2, 120, .inl (fun _ => 0))), (q_3, .inl (k_4, 120, .inl (fun _ => 0)))]) E h (fun w h => List.mem_cons_of_mem _ (List.mem_append_right _ h)) tyX4_ok nmX4 0 rfl rfl 3 (by decide) (List.mem_of_getElem? (i := 6) rfl) rfl hnm rfl (by decide +kernel) rfl rfl (Nat.le_of_ble_eq_true rfl) rfl dX4_init_17 (fun H locs h => ?_)
  refine lv_aload_n hx hb dX4_init_20 rfl (lv_at hl 0 rfl) ?_
  refine lv_bipush (v := 120) hx hb dX4_init_21 (by decide) ?_
  refine k_newa (ty := .int) (N' := 120) (a0 := (120, .inl (fun _ => 0))) (k := 3) (z := 360) E h (List.mem_of_getElem? (i := 4) rfl) rfl (fun _ => rfl) (by decide) (by decide) (by decide) (Nat.le_of_ble_eq_true rfl) (Nat.le_of_ble_eq_true rfl) dX4_init_23 (Nat.le_of_ble_eq_true rfl) (Nat.le_of_ble_eq_true rfl) (fun q_5 k_6 H h => ?_)
  have h : KS (dC, dI) A [(o4, .inr (4, [.int 0, .int 0, .ref q_1, .ref q_3, .null, .null, .null, .null, .null])), (q_1, .inl (k_2, 120, .inl (fun _ => 0))), (q_3, .inl (k_4, 120, .inl (fun _ => 0))), (q_5, .inl (k_6, 120, .inl (fun _ => 0)))] [(k_2, .int), (k_4, .int), (k_6, .int)] s H _ := h
  refine W.eq (g2 := F0 m 25 ls [.ref q_5, .ref o4]) rfl ?_
  refine k_putF (v := .ref q_5) (ty := .array .int) (ws' := [(o4, .inr (4, [.int 0, .int 0, .ref q_1, .ref q_3, .ref q_5, .null, .null, .null, .null])), (q_1, .inl (k_2, 120, .inl (fun _ => 0))), (q_3, .inl (k_4, 120, .inl (fun _ => 0))), (q_5, .inl (k_6, 120, .inl (fun _ => 0)))]) E h (fun w h => List.mem_cons_of_mem _ (List.mem_append_right _ h)) tyX4_ok nmX4 0 rfl rfl 4 (by decide) (List.mem_of_getElem? (i := 7) rfl) rfl hnm rfl (by decide +kernel) rfl rfl (Nat.le_of_ble_eq_true rfl) rfl dX4_init_25 (fun H locs h => ?_)
  refine lv_aload_n hx hb dX4_init_28 rfl (lv_at hl 0 rfl) ?_
  refine lv_bipush (v := 120) hx hb dX4_init_29 (by decide) ?_
  refine k_newa (ty := .int) (N' := 120) (a0 := (120, .inl (fun _ => 0))) (k := 4) (z := 480) E h (List.mem_of_getElem? (i := 4) rfl) rfl (fun _ => rfl) (by decide) (by decide) (by decide) (Nat.le_of_ble_eq_true rfl) (Nat.le_of_ble_eq_true rfl) dX4_init_31 (Nat.le_of_ble_eq_true rfl) (Nat.le_of_ble_eq_true rfl) (fun q_7 k_8 H h => ?_)
  have h : KS (dC, dI) A [(o4, .inr (4, [.int 0, .int 0, .ref q_1, .ref q_3, .ref q_5, .null, .null, .null, .null])), (q_1, .inl (k_2, 120, .inl (fun _ => 0))), (q_3, .inl (k_4, 120, .inl (fun _ => 0))), (q_5, .inl (k_6, 120, .inl (fun _ => 0))), (q_7, .inl (k_8, 120, .inl (fun _ => 0)))] [(k_2, .int), (k_4, .int), (k_6, .int), (k_8, .int)] s H _ := h
  refine k_putF (v := .ref q_7) (ty := .array .int) (ws' := [(o4, .inr (4, [.int 0, .int 0, .ref q_1, .ref q_3, .ref q_5, .ref q_7, .null, .null, .null])), (q_1, .inl (k_2, 120, .inl (fun _ => 0))), (q_3, .inl (k_4, 120, .inl (fun _ => 0))), (q_5, .inl (k_6, 120, .inl (fun _ => 0))), (q_7, .inl (k_8, 120, .inl (fun _ => 0)))]) E h (fun w h => List.mem_cons_of_mem _ (List.mem_append_right _ h)) tyX4_ok nmX4 0 rfl rfl 5 (by decide) (List.mem_of_getElem? (i := 8) rfl) rfl hnm rfl (by decide +kernel) rfl rfl (Nat.le_of_ble_eq_true rfl) rfl dX4_init_33 (fun H locs h => ?_)
  refine lv_aload_n hx hb dX4_init_36 rfl (lv_at hl 0 rfl) ?_
  refine lv_bipush (v := 120) hx hb dX4_init_37 (by decide) ?_
  refine k_newa (ty := .int) (N' := 120) (a0 := (120, .inl (fun _ => 0))) (k := 5) (z := 600) E h (List.mem_of_getElem? (i := 4) rfl) rfl (fun _ => rfl) (by decide) (by decide) (by decide) (Nat.le_of_ble_eq_true rfl) (Nat.le_of_ble_eq_true rfl) dX4_init_39 (Nat.le_of_ble_eq_true rfl) (Nat.le_of_ble_eq_true rfl) (fun q_9 k_10 H h => ?_)
  have h : KS (dC, dI) A [(o4, .inr (4, [.int 0, .int 0, .ref q_1, .ref q_3, .ref q_5, .ref q_7, .null, .null, .null])), (q_1, .inl (k_2, 120, .inl (fun _ => 0))), (q_3, .inl (k_4, 120, .inl (fun _ => 0))), (q_5, .inl (k_6, 120, .inl (fun _ => 0))), (q_7, .inl (k_8, 120, .inl (fun _ => 0))), (q_9, .inl (k_10, 120, .inl (fun _ => 0)))] [(k_2, .int), (k_4, .int), (k_6, .int), (k_8, .int), (k_10, .int)] s H _ := h
  refine k_putF (v := .ref q_9) (ty := .array .int) (ws' := [(o4, .inr (4, [.int 0, .int 0, .ref q_1, .ref q_3, .ref q_5, .ref q_7, .ref q_9, .null, .null])), (q_1, .inl (k_2, 120, .inl (fun _ => 0))), (q_3, .inl (k_4, 120, .inl (fun _ => 0))), (q_5, .inl (k_6, 120, .inl (fun _ => 0))), (q_7, .inl (k_8, 120, .inl (fun _ => 0))), (q_9, .inl (k_10, 120, .inl (fun _ => 0)))]) E h (fun w h => List.mem_cons_of_mem _ (List.mem_append_right _ h)) tyX4_ok nmX4 0 rfl rfl 6 (by decide) (List.mem_of_getElem? (i := 9) rfl) rfl hnm rfl (by decide +kernel) rfl rfl (Nat.le_of_ble_eq_true rfl) rfl dX4_init_41 (fun H locs h => ?_)
  refine lv_aload_n hx hb dX4_init_44 rfl (lv_at hl 0 rfl) ?_
  refine lv_aload_n hx hb dX4_init_45 rfl (lv_at hl 1 rfl) ?_
  refine k_putF (v := .ref o5) (ty := .object "StepStore$Rows") (ws' := [(o4, .inr (4, [.int 0, .int 0, .ref q_1, .ref q_3, .ref q_5, .ref q_7, .ref q_9, .ref o5, .null])), (q_1, .inl (k_2, 120, .inl (fun _ => 0))), (q_3, .inl (k_4, 120, .inl (fun _ => 0))), (q_5, .inl (k_6, 120, .inl (fun _ => 0))), (q_7, .inl (k_8, 120, .inl (fun _ => 0))), (q_9, .inl (k_10, 120, .inl (fun _ => 0)))]) E h (fun w h => List.mem_cons_of_mem _ (List.mem_append_right _ h)) tyX4_ok nmX4 0 rfl rfl 7 (by decide) (List.mem_of_getElem? (i := 10) rfl) rfl hnm rfl (by decide +kernel) rfl rfl (Nat.le_of_ble_eq_true rfl) rfl dX4_init_46 (fun H locs h => ?_)
  refine W.eq (g2 := F0 m 49 ls []) rfl ?_
  refine lv_aload_n hx hb dX4_init_49 rfl (lv_at hl 0 rfl) ?_
  refine lv_aload_n hx hb dX4_init_50 rfl (lv_at hl 2 rfl) ?_
  refine k_putF (v := .ref o3) (ty := .object "StepStore$Packing") (ws' := [(o4, .inr (4, [.int 0, .int 0, .ref q_1, .ref q_3, .ref q_5, .ref q_7, .ref q_9, .ref o5, .ref o3])), (q_1, .inl (k_2, 120, .inl (fun _ => 0))), (q_3, .inl (k_4, 120, .inl (fun _ => 0))), (q_5, .inl (k_6, 120, .inl (fun _ => 0))), (q_7, .inl (k_8, 120, .inl (fun _ => 0))), (q_9, .inl (k_10, 120, .inl (fun _ => 0)))]) E h (fun w h => List.mem_cons_of_mem _ (List.mem_append_right _ h)) tyX4_ok nmX4 0 rfl rfl 8 (by decide) (List.mem_of_getElem? (i := 11) rfl) rfl hnm rfl (by decide +kernel) rfl rfl (Nat.le_of_ble_eq_true rfl) rfl dX4_init_51 (fun H locs h => ?_)
  have hP9 := h.2.1.sub [0, 1, 2, 3, 4, 5] rfl
  have hD9 := h.2.2.1.sub (ws' := [(o4, .inr (4, [.int 0, .int 0, .ref q_1, .ref q_3, .ref q_5, .ref q_7, .ref q_9, .ref o5, .ref o3])), (q_1, .inl (k_2, 120, .inl (fun _ => 0))), (q_3, .inl (k_4, 120, .inl (fun _ => 0))), (q_5, .inl (k_6, 120, .inl (fun _ => 0))), (q_7, .inl (k_8, 120, .inl (fun _ => 0))), (q_9, .inl (k_10, 120, .inl (fun _ => 0)))]) [0, 1, 2, 3, 4, 5] (by decide) rfl
  have hK9 := h.1.sub (tys' := [(k_2, .int), (k_4, .int), (k_6, .int), (k_8, .int), (k_10, .int)]) [0, 1, 2, 3, 4] rfl
  exact W.vret hx hb hr (fun t ht hW => ⟨⟨(fun i => [q_1, q_3, q_5, q_7, q_9].getD i 0, fun i => [k_2, k_4, k_6, k_8, k_10].getD i 0), rfl, trivial, (by rw [ht]; exact hP9), hD9, va_K.moved hW.alike hK9⟩, h.2.2.2.1.F ht⟩) h.2.2.2.1.2.2 dX4_init_54 hlocks
set_option maxHeartbeats 4000000 in
set_option maxRecDepth 100000 in
theorem c_X1_init (l : Launch) (dC : Nat → ClassId) (dI : Nat → Nat → Nat) (sz : Nat) (o1 : Nat) (o5 : Nat) (o4 : Nat)  : Met l yX1_init wsX1_init ({ frames := 1, cells := 7, slots := 275, locals := 20 } : Room) (va_Pc [.ref o1, .ref o5, .ref o4] (KPre (dC, dI) [(o1, .inr (1, [.null, .int 0, .int 0, .int 0, .null, .null, .null, .null, .null, .null, .null, .null]))] [] sz (fun _ => True))) (va_Qv (fun (u : (Nat → Nat) × (Nat → ClassId)) => True) (KPostK (dC, dI) (va_A [(o1, .inr (1, [.null, .int 0, .int 0, .int 0, .null, .null, .null, .null, .null, .null, .null, .null]))] sz) (fun (u : (Nat → Nat) × (Nat → ClassId)) => [(o1, .inr (1, [.ref (u.1 0), .int 0, .int 0, .int 0, .ref (u.1 1), .ref (u.1 2), .ref (u.1 3), .ref (u.1 4), .ref (u.1 5), .ref (u.1 6), .ref o5, .ref o4])), ((u.1 0), .inl ((u.2 0), 7, .inl (fun _ => 0))), ((u.1 1), .inl ((u.2 1), 120, .inl (fun _ => 0))), ((u.1 2), .inl ((u.2 2), 120, .inl (fun _ => 0))), ((u.1 3), .inl ((u.2 3), 7, .inl (fun _ => 0))), ((u.1 4), .inl ((u.2 4), 7, .inl (fun _ => 0))), ((u.1 5), .inl ((u.2 5), 7, .inl (fun _ => 0))), ((u.1 6), .inl ((u.2 6), 7, .inl (fun _ => 0)))]) (fun (u : (Nat → Nat) × (Nat → ClassId)) => [((u.2 0), .int), ((u.2 1), .int), ((u.2 2), .int), ((u.2 3), .int), ((u.2 4), .int), ((u.2 5), .int), ((u.2 6), .int)])) (va_A [(o1, .inr (1, [.null, .int 0, .int 0, .int 0, .null, .null, .null, .null, .null, .null, .null, .null]))] sz)) 7 275 (va_A [(o1, .inr (1, [.null, .int 0, .int 0, .int 0, .null, .null, .null, .null, .null, .null, .null, .null]))] sz) := by
  refine kMet (y := yX1_init) (wsM := wsX1_init) (cc := cX1_init) (maxL := 3) (ret := none) (rm := ({ frames := 1, cells := 7, slots := 275, locals := 20 } : Room)) (mc := 7) (ms := 275) (av := [.ref o1, .ref o5, .ref o4]) (D := (dC, dI)) (wc := [(o1, .inr (1, [.null, .int 0, .int 0, .int 0, .null, .null, .null, .null, .null, .null, .null, .null]))]) (tc := []) (sz := sz) (X := fun _ => True) (Qc := fun A => va_Qv (fun (u : (Nat → Nat) × (Nat → ClassId)) => True) (KPostK (dC, dI) A (fun (u : (Nat → Nat) × (Nat → ClassId)) => [(o1, .inr (1, [.ref (u.1 0), .int 0, .int 0, .int 0, .ref (u.1 1), .ref (u.1 2), .ref (u.1 3), .ref (u.1 4), .ref (u.1 5), .ref (u.1 6), .ref o5, .ref o4])), ((u.1 0), .inl ((u.2 0), 7, .inl (fun _ => 0))), ((u.1 1), .inl ((u.2 1), 120, .inl (fun _ => 0))), ((u.1 2), .inl ((u.2 2), 120, .inl (fun _ => 0))), ((u.1 3), .inl ((u.2 3), 7, .inl (fun _ => 0))), ((u.1 4), .inl ((u.2 4), 7, .inl (fun _ => 0))), ((u.1 5), .inl ((u.2 5), 7, .inl (fun _ => 0))), ((u.1 6), .inl ((u.2 6), 7, .inl (fun _ => 0)))]) (fun (u : (Nat → Nat) × (Nat → ClassId)) => [((u.2 0), .int), ((u.2 1), .int), ((u.2 2), .int), ((u.2 3), .int), ((u.2 4), .int), ((u.2 5), .int), ((u.2 6), .int)])) A) (by decide) rfl (Nat.le_of_ble_eq_true rfl) ?_
  intro p e s m below meth c A ls E hr hlocks hnm hsz hAe hX h hl
  have hx := E.1
  have hb := E.2.1
  have hl : lv_has ls 3 [(0, .ref o1), (1, .ref o5), (2, .ref o4)] := hl
  refine lv_aload_n hx hb dX1_init_0 rfl (lv_at hl 0 rfl) ?_
  refine W.objInit hx hb E.2.2.2.1 (E.2.2.2.2 _ (List.mem_of_getElem? (i := 1) rfl)) (E.2.2.2.2 _ (List.mem_of_getElem? (i := 2) rfl)) (E.2.2.2.2 _ (List.mem_of_getElem? (i := 3) rfl)) rfl (by rw [E.2.2.1]; exact hl.1) rfl dX1_init_1 (Nat.le_of_ble_eq_true rfl) (Nat.le_of_ble_eq_true rfl) ?_
  refine W.eq (g2 := F0 m 4 ls []) rfl ?_
  refine lv_aload_n hx hb dX1_init_4 rfl (lv_at hl 0 rfl) ?_
  refine lv_bipush (v := 7) hx hb dX1_init_5 (by decide) ?_
  refine k_newa (ty := .int) (N' := 7) (a0 := (7, .inl (fun _ => 0))) (k := 1) (z := 7) E h (List.mem_of_getElem? (i := 4) rfl) rfl (fun _ => rfl) (by decide) (by decide) (by decide) (Nat.le_of_ble_eq_true rfl) (Nat.le_of_ble_eq_true rfl) dX1_init_7 (Nat.le_of_ble_eq_true rfl) (Nat.le_of_ble_eq_true rfl) (fun q_1 k_2 H h => ?_)
  have h : KS (dC, dI) A [(o1, .inr (1, [.null, .int 0, .int 0, .int 0, .null, .null, .null, .null, .null, .null, .null, .null])), (q_1, .inl (k_2, 7, .inl (fun _ => 0)))] [(k_2, .int)] s H _ := h
  refine k_putF (v := .ref q_1) (ty := .array .int) (ws' := [(o1, .inr (1, [.ref q_1, .int 0, .int 0, .int 0, .null, .null, .null, .null, .null, .null, .null, .null])), (q_1, .inl (k_2, 7, .inl (fun _ => 0)))]) E h (fun w h => List.mem_cons_of_mem _ (List.mem_append_right _ h)) tyX1_ok nmX1 0 rfl rfl 0 (by decide) (List.mem_of_getElem? (i := 5) rfl) rfl hnm rfl (by decide +kernel) rfl rfl (Nat.le_of_ble_eq_true rfl) rfl dX1_init_9 (fun H locs h => ?_)
  refine lv_aload_n hx hb dX1_init_12 rfl (lv_at hl 0 rfl) ?_
  refine lv_bipush (v := 120) hx hb dX1_init_13 (by decide) ?_
  refine k_newa (ty := .int) (N' := 120) (a0 := (120, .inl (fun _ => 0))) (k := 2) (z := 127) E h (List.mem_of_getElem? (i := 4) rfl) rfl (fun _ => rfl) (by decide) (by decide) (by decide) (Nat.le_of_ble_eq_true rfl) (Nat.le_of_ble_eq_true rfl) dX1_init_15 (Nat.le_of_ble_eq_true rfl) (Nat.le_of_ble_eq_true rfl) (fun q_3 k_4 H h => ?_)
  have h : KS (dC, dI) A [(o1, .inr (1, [.ref q_1, .int 0, .int 0, .int 0, .null, .null, .null, .null, .null, .null, .null, .null])), (q_1, .inl (k_2, 7, .inl (fun _ => 0))), (q_3, .inl (k_4, 120, .inl (fun _ => 0)))] [(k_2, .int), (k_4, .int)] s H _ := h
  refine k_putF (v := .ref q_3) (ty := .array .int) (ws' := [(o1, .inr (1, [.ref q_1, .int 0, .int 0, .int 0, .ref q_3, .null, .null, .null, .null, .null, .null, .null])), (q_1, .inl (k_2, 7, .inl (fun _ => 0))), (q_3, .inl (k_4, 120, .inl (fun _ => 0)))]) E h (fun w h => List.mem_cons_of_mem _ (List.mem_append_right _ h)) tyX1_ok nmX1 0 rfl rfl 4 (by decide) (List.mem_of_getElem? (i := 6) rfl) rfl hnm rfl (by decide +kernel) rfl rfl (Nat.le_of_ble_eq_true rfl) rfl dX1_init_17 (fun H locs h => ?_)
  refine lv_aload_n hx hb dX1_init_20 rfl (lv_at hl 0 rfl) ?_
  refine lv_bipush (v := 120) hx hb dX1_init_21 (by decide) ?_
  refine k_newa (ty := .int) (N' := 120) (a0 := (120, .inl (fun _ => 0))) (k := 3) (z := 247) E h (List.mem_of_getElem? (i := 4) rfl) rfl (fun _ => rfl) (by decide) (by decide) (by decide) (Nat.le_of_ble_eq_true rfl) (Nat.le_of_ble_eq_true rfl) dX1_init_23 (Nat.le_of_ble_eq_true rfl) (Nat.le_of_ble_eq_true rfl) (fun q_5 k_6 H h => ?_)
  have h : KS (dC, dI) A [(o1, .inr (1, [.ref q_1, .int 0, .int 0, .int 0, .ref q_3, .null, .null, .null, .null, .null, .null, .null])), (q_1, .inl (k_2, 7, .inl (fun _ => 0))), (q_3, .inl (k_4, 120, .inl (fun _ => 0))), (q_5, .inl (k_6, 120, .inl (fun _ => 0)))] [(k_2, .int), (k_4, .int), (k_6, .int)] s H _ := h
  refine W.eq (g2 := F0 m 25 ls [.ref q_5, .ref o1]) rfl ?_
  refine k_putF (v := .ref q_5) (ty := .array .int) (ws' := [(o1, .inr (1, [.ref q_1, .int 0, .int 0, .int 0, .ref q_3, .ref q_5, .null, .null, .null, .null, .null, .null])), (q_1, .inl (k_2, 7, .inl (fun _ => 0))), (q_3, .inl (k_4, 120, .inl (fun _ => 0))), (q_5, .inl (k_6, 120, .inl (fun _ => 0)))]) E h (fun w h => List.mem_cons_of_mem _ (List.mem_append_right _ h)) tyX1_ok nmX1 0 rfl rfl 5 (by decide) (List.mem_of_getElem? (i := 7) rfl) rfl hnm rfl (by decide +kernel) rfl rfl (Nat.le_of_ble_eq_true rfl) rfl dX1_init_25 (fun H locs h => ?_)
  refine lv_aload_n hx hb dX1_init_28 rfl (lv_at hl 0 rfl) ?_
  refine lv_bipush (v := 7) hx hb dX1_init_29 (by decide) ?_
  refine k_newa (ty := .int) (N' := 7) (a0 := (7, .inl (fun _ => 0))) (k := 4) (z := 254) E h (List.mem_of_getElem? (i := 4) rfl) rfl (fun _ => rfl) (by decide) (by decide) (by decide) (Nat.le_of_ble_eq_true rfl) (Nat.le_of_ble_eq_true rfl) dX1_init_31 (Nat.le_of_ble_eq_true rfl) (Nat.le_of_ble_eq_true rfl) (fun q_7 k_8 H h => ?_)
  have h : KS (dC, dI) A [(o1, .inr (1, [.ref q_1, .int 0, .int 0, .int 0, .ref q_3, .ref q_5, .null, .null, .null, .null, .null, .null])), (q_1, .inl (k_2, 7, .inl (fun _ => 0))), (q_3, .inl (k_4, 120, .inl (fun _ => 0))), (q_5, .inl (k_6, 120, .inl (fun _ => 0))), (q_7, .inl (k_8, 7, .inl (fun _ => 0)))] [(k_2, .int), (k_4, .int), (k_6, .int), (k_8, .int)] s H _ := h
  refine k_putF (v := .ref q_7) (ty := .array .int) (ws' := [(o1, .inr (1, [.ref q_1, .int 0, .int 0, .int 0, .ref q_3, .ref q_5, .ref q_7, .null, .null, .null, .null, .null])), (q_1, .inl (k_2, 7, .inl (fun _ => 0))), (q_3, .inl (k_4, 120, .inl (fun _ => 0))), (q_5, .inl (k_6, 120, .inl (fun _ => 0))), (q_7, .inl (k_8, 7, .inl (fun _ => 0)))]) E h (fun w h => List.mem_cons_of_mem _ (List.mem_append_right _ h)) tyX1_ok nmX1 0 rfl rfl 6 (by decide) (List.mem_of_getElem? (i := 8) rfl) rfl hnm rfl (by decide +kernel) rfl rfl (Nat.le_of_ble_eq_true rfl) rfl dX1_init_33 (fun H locs h => ?_)
  refine lv_aload_n hx hb dX1_init_36 rfl (lv_at hl 0 rfl) ?_
  refine lv_bipush (v := 7) hx hb dX1_init_37 (by decide) ?_
  refine k_newa (ty := .int) (N' := 7) (a0 := (7, .inl (fun _ => 0))) (k := 5) (z := 261) E h (List.mem_of_getElem? (i := 4) rfl) rfl (fun _ => rfl) (by decide) (by decide) (by decide) (Nat.le_of_ble_eq_true rfl) (Nat.le_of_ble_eq_true rfl) dX1_init_39 (Nat.le_of_ble_eq_true rfl) (Nat.le_of_ble_eq_true rfl) (fun q_9 k_10 H h => ?_)
  have h : KS (dC, dI) A [(o1, .inr (1, [.ref q_1, .int 0, .int 0, .int 0, .ref q_3, .ref q_5, .ref q_7, .null, .null, .null, .null, .null])), (q_1, .inl (k_2, 7, .inl (fun _ => 0))), (q_3, .inl (k_4, 120, .inl (fun _ => 0))), (q_5, .inl (k_6, 120, .inl (fun _ => 0))), (q_7, .inl (k_8, 7, .inl (fun _ => 0))), (q_9, .inl (k_10, 7, .inl (fun _ => 0)))] [(k_2, .int), (k_4, .int), (k_6, .int), (k_8, .int), (k_10, .int)] s H _ := h
  refine k_putF (v := .ref q_9) (ty := .array .int) (ws' := [(o1, .inr (1, [.ref q_1, .int 0, .int 0, .int 0, .ref q_3, .ref q_5, .ref q_7, .ref q_9, .null, .null, .null, .null])), (q_1, .inl (k_2, 7, .inl (fun _ => 0))), (q_3, .inl (k_4, 120, .inl (fun _ => 0))), (q_5, .inl (k_6, 120, .inl (fun _ => 0))), (q_7, .inl (k_8, 7, .inl (fun _ => 0))), (q_9, .inl (k_10, 7, .inl (fun _ => 0)))]) E h (fun w h => List.mem_cons_of_mem _ (List.mem_append_right _ h)) tyX1_ok nmX1 0 rfl rfl 7 (by decide) (List.mem_of_getElem? (i := 9) rfl) rfl hnm rfl (by decide +kernel) rfl rfl (Nat.le_of_ble_eq_true rfl) rfl dX1_init_41 (fun H locs h => ?_)
  refine lv_aload_n hx hb dX1_init_44 rfl (lv_at hl 0 rfl) ?_
  refine lv_bipush (v := 7) hx hb dX1_init_45 (by decide) ?_
  refine k_newa (ty := .int) (N' := 7) (a0 := (7, .inl (fun _ => 0))) (k := 6) (z := 268) E h (List.mem_of_getElem? (i := 4) rfl) rfl (fun _ => rfl) (by decide) (by decide) (by decide) (Nat.le_of_ble_eq_true rfl) (Nat.le_of_ble_eq_true rfl) dX1_init_47 (Nat.le_of_ble_eq_true rfl) (Nat.le_of_ble_eq_true rfl) (fun q_11 k_12 H h => ?_)
  have h : KS (dC, dI) A [(o1, .inr (1, [.ref q_1, .int 0, .int 0, .int 0, .ref q_3, .ref q_5, .ref q_7, .ref q_9, .null, .null, .null, .null])), (q_1, .inl (k_2, 7, .inl (fun _ => 0))), (q_3, .inl (k_4, 120, .inl (fun _ => 0))), (q_5, .inl (k_6, 120, .inl (fun _ => 0))), (q_7, .inl (k_8, 7, .inl (fun _ => 0))), (q_9, .inl (k_10, 7, .inl (fun _ => 0))), (q_11, .inl (k_12, 7, .inl (fun _ => 0)))] [(k_2, .int), (k_4, .int), (k_6, .int), (k_8, .int), (k_10, .int), (k_12, .int)] s H _ := h
  refine W.eq (g2 := F0 m 49 ls [.ref q_11, .ref o1]) rfl ?_
  refine k_putF (v := .ref q_11) (ty := .array .int) (ws' := [(o1, .inr (1, [.ref q_1, .int 0, .int 0, .int 0, .ref q_3, .ref q_5, .ref q_7, .ref q_9, .ref q_11, .null, .null, .null])), (q_1, .inl (k_2, 7, .inl (fun _ => 0))), (q_3, .inl (k_4, 120, .inl (fun _ => 0))), (q_5, .inl (k_6, 120, .inl (fun _ => 0))), (q_7, .inl (k_8, 7, .inl (fun _ => 0))), (q_9, .inl (k_10, 7, .inl (fun _ => 0))), (q_11, .inl (k_12, 7, .inl (fun _ => 0)))]) E h (fun w h => List.mem_cons_of_mem _ (List.mem_append_right _ h)) tyX1_ok nmX1 0 rfl rfl 8 (by decide) (List.mem_of_getElem? (i := 10) rfl) rfl hnm rfl (by decide +kernel) rfl rfl (Nat.le_of_ble_eq_true rfl) rfl dX1_init_49 (fun H locs h => ?_)
  refine lv_aload_n hx hb dX1_init_52 rfl (lv_at hl 0 rfl) ?_
  refine lv_bipush (v := 7) hx hb dX1_init_53 (by decide) ?_
  refine k_newa (ty := .int) (N' := 7) (a0 := (7, .inl (fun _ => 0))) (k := 7) (z := 275) E h (List.mem_of_getElem? (i := 4) rfl) rfl (fun _ => rfl) (by decide) (by decide) (by decide) (Nat.le_of_ble_eq_true rfl) (Nat.le_of_ble_eq_true rfl) dX1_init_55 (Nat.le_of_ble_eq_true rfl) (Nat.le_of_ble_eq_true rfl) (fun q_13 k_14 H h => ?_)
  have h : KS (dC, dI) A [(o1, .inr (1, [.ref q_1, .int 0, .int 0, .int 0, .ref q_3, .ref q_5, .ref q_7, .ref q_9, .ref q_11, .null, .null, .null])), (q_1, .inl (k_2, 7, .inl (fun _ => 0))), (q_3, .inl (k_4, 120, .inl (fun _ => 0))), (q_5, .inl (k_6, 120, .inl (fun _ => 0))), (q_7, .inl (k_8, 7, .inl (fun _ => 0))), (q_9, .inl (k_10, 7, .inl (fun _ => 0))), (q_11, .inl (k_12, 7, .inl (fun _ => 0))), (q_13, .inl (k_14, 7, .inl (fun _ => 0)))] [(k_2, .int), (k_4, .int), (k_6, .int), (k_8, .int), (k_10, .int), (k_12, .int), (k_14, .int)] s H _ := h
  refine k_putF (v := .ref q_13) (ty := .array .int) (ws' := [(o1, .inr (1, [.ref q_1, .int 0, .int 0, .int 0, .ref q_3, .ref q_5, .ref q_7, .ref q_9, .ref q_11, .ref q_13, .null, .null])), (q_1, .inl (k_2, 7, .inl (fun _ => 0))), (q_3, .inl (k_4, 120, .inl (fun _ => 0))), (q_5, .inl (k_6, 120, .inl (fun _ => 0))), (q_7, .inl (k_8, 7, .inl (fun _ => 0))), (q_9, .inl (k_10, 7, .inl (fun _ => 0))), (q_11, .inl (k_12, 7, .inl (fun _ => 0))), (q_13, .inl (k_14, 7, .inl (fun _ => 0)))]) E h (fun w h => List.mem_cons_of_mem _ (List.mem_append_right _ h)) tyX1_ok nmX1 0 rfl rfl 9 (by decide) (List.mem_of_getElem? (i := 11) rfl) rfl hnm rfl (by decide +kernel) rfl rfl (Nat.le_of_ble_eq_true rfl) rfl dX1_init_57 (fun H locs h => ?_)
  refine lv_aload_n hx hb dX1_init_60 rfl (lv_at hl 0 rfl) ?_
  refine lv_aload_n hx hb dX1_init_61 rfl (lv_at hl 1 rfl) ?_
  refine k_putF (v := .ref o5) (ty := .object "StepStore$Rows") (ws' := [(o1, .inr (1, [.ref q_1, .int 0, .int 0, .int 0, .ref q_3, .ref q_5, .ref q_7, .ref q_9, .ref q_11, .ref q_13, .ref o5, .null])), (q_1, .inl (k_2, 7, .inl (fun _ => 0))), (q_3, .inl (k_4, 120, .inl (fun _ => 0))), (q_5, .inl (k_6, 120, .inl (fun _ => 0))), (q_7, .inl (k_8, 7, .inl (fun _ => 0))), (q_9, .inl (k_10, 7, .inl (fun _ => 0))), (q_11, .inl (k_12, 7, .inl (fun _ => 0))), (q_13, .inl (k_14, 7, .inl (fun _ => 0)))]) E h (fun w h => List.mem_cons_of_mem _ (List.mem_append_right _ h)) tyX1_ok nmX1 0 rfl rfl 10 (by decide) (List.mem_of_getElem? (i := 12) rfl) rfl hnm rfl (by decide +kernel) rfl rfl (Nat.le_of_ble_eq_true rfl) rfl dX1_init_62 (fun H locs h => ?_)
  refine lv_aload_n hx hb dX1_init_65 rfl (lv_at hl 0 rfl) ?_
  refine lv_aload_n hx hb dX1_init_66 rfl (lv_at hl 2 rfl) ?_
  refine k_putF (v := .ref o4) (ty := .object "StepStore$Places") (ws' := [(o1, .inr (1, [.ref q_1, .int 0, .int 0, .int 0, .ref q_3, .ref q_5, .ref q_7, .ref q_9, .ref q_11, .ref q_13, .ref o5, .ref o4])), (q_1, .inl (k_2, 7, .inl (fun _ => 0))), (q_3, .inl (k_4, 120, .inl (fun _ => 0))), (q_5, .inl (k_6, 120, .inl (fun _ => 0))), (q_7, .inl (k_8, 7, .inl (fun _ => 0))), (q_9, .inl (k_10, 7, .inl (fun _ => 0))), (q_11, .inl (k_12, 7, .inl (fun _ => 0))), (q_13, .inl (k_14, 7, .inl (fun _ => 0)))]) E h (fun w h => List.mem_cons_of_mem _ (List.mem_append_right _ h)) tyX1_ok nmX1 0 rfl rfl 11 (by decide) (List.mem_of_getElem? (i := 13) rfl) rfl hnm rfl (by decide +kernel) rfl rfl (Nat.le_of_ble_eq_true rfl) rfl dX1_init_67 (fun H locs h => ?_)
  have hP9 := h.2.1.sub [0, 1, 2, 3, 4, 5, 6, 7] rfl
  have hD9 := h.2.2.1.sub (ws' := [(o1, .inr (1, [.ref q_1, .int 0, .int 0, .int 0, .ref q_3, .ref q_5, .ref q_7, .ref q_9, .ref q_11, .ref q_13, .ref o5, .ref o4])), (q_1, .inl (k_2, 7, .inl (fun _ => 0))), (q_3, .inl (k_4, 120, .inl (fun _ => 0))), (q_5, .inl (k_6, 120, .inl (fun _ => 0))), (q_7, .inl (k_8, 7, .inl (fun _ => 0))), (q_9, .inl (k_10, 7, .inl (fun _ => 0))), (q_11, .inl (k_12, 7, .inl (fun _ => 0))), (q_13, .inl (k_14, 7, .inl (fun _ => 0)))]) [0, 1, 2, 3, 4, 5, 6, 7] (by decide) rfl
  have hK9 := h.1.sub (tys' := [(k_2, .int), (k_4, .int), (k_6, .int), (k_8, .int), (k_10, .int), (k_12, .int), (k_14, .int)]) [0, 1, 2, 3, 4, 5, 6] rfl
  exact W.vret hx hb hr (fun t ht hW => ⟨⟨(fun i => [q_1, q_3, q_5, q_7, q_9, q_11, q_13].getD i 0, fun i => [k_2, k_4, k_6, k_8, k_10, k_12, k_14].getD i 0), rfl, trivial, (by rw [ht]; exact hP9), hD9, va_K.moved hW.alike hK9⟩, h.2.2.2.1.F ht⟩) h.2.2.2.1.2.2 dX1_init_70 hlocks
set_option maxHeartbeats 4000000 in
set_option maxRecDepth 100000 in
theorem c_X0_init (l : Launch) (dC : Nat → ClassId) (dI : Nat → Nat → Nat) (sz : Nat) (o0 : Nat) (o2 : Nat) (o5 : Nat) (o3 : Nat)  : Met l yX0_init wsX0_init ({ frames := 1, cells := 3, slots := 134, locals := 20 } : Room) (va_Pc [.ref o0, .ref o2, .ref o5, .ref o3] (KPre (dC, dI) [(o0, .inr (0, [.int 0, .int 0, .int 0, .null, .null, .null, .null, .null, .int 0, .null]))] [] sz (fun _ => True))) (va_Qv (fun (u : (Nat → Nat) × (Nat → ClassId)) => True) (KPostK (dC, dI) (va_A [(o0, .inr (0, [.int 0, .int 0, .int 0, .null, .null, .null, .null, .null, .int 0, .null]))] sz) (fun (u : (Nat → Nat) × (Nat → ClassId)) => [(o0, .inr (0, [.int 0, .int 0, .int (-1), .ref o2, .ref o5, .ref o3, .ref (u.1 0), .ref (u.1 1), .int 0, .ref (u.1 2)])), ((u.1 0), .inl ((u.2 0), 30, .inl (fun _ => 0))), ((u.1 1), .inl ((u.2 1), 30, .inr (.inl (fun _ => 0)))), ((u.1 2), .inl ((u.2 2), 74, .inr (.inl (fun _ => 0))))]) (fun (u : (Nat → Nat) × (Nat → ClassId)) => [((u.2 0), .int), ((u.2 1), .long), ((u.2 2), .long)])) (va_A [(o0, .inr (0, [.int 0, .int 0, .int 0, .null, .null, .null, .null, .null, .int 0, .null]))] sz)) 3 134 (va_A [(o0, .inr (0, [.int 0, .int 0, .int 0, .null, .null, .null, .null, .null, .int 0, .null]))] sz) := by
  refine kMet (y := yX0_init) (wsM := wsX0_init) (cc := cX0_init) (maxL := 4) (ret := none) (rm := ({ frames := 1, cells := 3, slots := 134, locals := 20 } : Room)) (mc := 3) (ms := 134) (av := [.ref o0, .ref o2, .ref o5, .ref o3]) (D := (dC, dI)) (wc := [(o0, .inr (0, [.int 0, .int 0, .int 0, .null, .null, .null, .null, .null, .int 0, .null]))]) (tc := []) (sz := sz) (X := fun _ => True) (Qc := fun A => va_Qv (fun (u : (Nat → Nat) × (Nat → ClassId)) => True) (KPostK (dC, dI) A (fun (u : (Nat → Nat) × (Nat → ClassId)) => [(o0, .inr (0, [.int 0, .int 0, .int (-1), .ref o2, .ref o5, .ref o3, .ref (u.1 0), .ref (u.1 1), .int 0, .ref (u.1 2)])), ((u.1 0), .inl ((u.2 0), 30, .inl (fun _ => 0))), ((u.1 1), .inl ((u.2 1), 30, .inr (.inl (fun _ => 0)))), ((u.1 2), .inl ((u.2 2), 74, .inr (.inl (fun _ => 0))))]) (fun (u : (Nat → Nat) × (Nat → ClassId)) => [((u.2 0), .int), ((u.2 1), .long), ((u.2 2), .long)])) A) (by decide) rfl (Nat.le_of_ble_eq_true rfl) ?_
  intro p e s m below meth c A ls E hr hlocks hnm hsz hAe hX h hl
  have hx := E.1
  have hb := E.2.1
  have hl : lv_has ls 4 [(0, .ref o0), (1, .ref o2), (2, .ref o5), (3, .ref o3)] := hl
  refine lv_aload_n hx hb dX0_init_0 rfl (lv_at hl 0 rfl) ?_
  refine W.objInit hx hb E.2.2.2.1 (E.2.2.2.2 _ (List.mem_of_getElem? (i := 1) rfl)) (E.2.2.2.2 _ (List.mem_of_getElem? (i := 2) rfl)) (E.2.2.2.2 _ (List.mem_of_getElem? (i := 3) rfl)) rfl (by rw [E.2.2.1]; exact hl.1) rfl dX0_init_1 (Nat.le_of_ble_eq_true rfl) (Nat.le_of_ble_eq_true rfl) ?_
  refine W.eq (g2 := F0 m 4 ls []) rfl ?_
  refine lv_aload_n hx hb dX0_init_4 rfl (lv_at hl 0 rfl) ?_
  refine lv_iconst (v := -1) hx hb dX0_init_5 (by decide) ?_
  refine k_put (v := .int (-1)) (ty := .int) (ws' := [(o0, .inr (0, [.int 0, .int 0, .int (-1), .null, .null, .null, .null, .null, .int 0, .null]))]) E h (fun w h => List.mem_cons_of_mem _ (List.mem_append_right _ h)) tyX0_ok nmX0 0 rfl rfl 2 (by decide) (List.mem_of_getElem? (i := 4) rfl) rfl (by decide +kernel) rfl rfl (Nat.le_of_ble_eq_true rfl) rfl dX0_init_6 (fun H locs h => ?_)
  refine lv_aload_n hx hb dX0_init_9 rfl (lv_at hl 0 rfl) ?_
  refine lv_bipush (v := 30) hx hb dX0_init_10 (by decide) ?_
  refine k_newa (ty := .int) (N' := 30) (a0 := (30, .inl (fun _ => 0))) (k := 1) (z := 30) E h (List.mem_of_getElem? (i := 5) rfl) rfl (fun _ => rfl) (by decide) (by decide) (by decide) (Nat.le_of_ble_eq_true rfl) (Nat.le_of_ble_eq_true rfl) dX0_init_12 (Nat.le_of_ble_eq_true rfl) (Nat.le_of_ble_eq_true rfl) (fun q_1 k_2 H h => ?_)
  have h : KS (dC, dI) A [(o0, .inr (0, [.int 0, .int 0, .int (-1), .null, .null, .null, .null, .null, .int 0, .null])), (q_1, .inl (k_2, 30, .inl (fun _ => 0)))] [(k_2, .int)] s H _ := h
  refine k_putF (v := .ref q_1) (ty := .array .int) (ws' := [(o0, .inr (0, [.int 0, .int 0, .int (-1), .null, .null, .null, .ref q_1, .null, .int 0, .null])), (q_1, .inl (k_2, 30, .inl (fun _ => 0)))]) E h (fun w h => List.mem_cons_of_mem _ (List.mem_append_right _ h)) tyX0_ok nmX0 0 rfl rfl 6 (by decide) (List.mem_of_getElem? (i := 6) rfl) rfl hnm rfl (by decide +kernel) rfl rfl (Nat.le_of_ble_eq_true rfl) rfl dX0_init_14 (fun H locs h => ?_)
  refine lv_aload_n hx hb dX0_init_17 rfl (lv_at hl 0 rfl) ?_
  refine lv_bipush (v := 30) hx hb dX0_init_18 (by decide) ?_
  refine k_newa (ty := .long) (N' := 30) (a0 := (30, .inr (.inl (fun _ => 0)))) (k := 2) (z := 60) E h (List.mem_of_getElem? (i := 7) rfl) rfl (fun _ => rfl) (by decide) (by decide) (by decide) (Nat.le_of_ble_eq_true rfl) (Nat.le_of_ble_eq_true rfl) dX0_init_20 (Nat.le_of_ble_eq_true rfl) (Nat.le_of_ble_eq_true rfl) (fun q_3 k_4 H h => ?_)
  have h : KS (dC, dI) A [(o0, .inr (0, [.int 0, .int 0, .int (-1), .null, .null, .null, .ref q_1, .null, .int 0, .null])), (q_1, .inl (k_2, 30, .inl (fun _ => 0))), (q_3, .inl (k_4, 30, .inr (.inl (fun _ => 0))))] [(k_2, .int), (k_4, .long)] s H _ := h
  refine k_putF (v := .ref q_3) (ty := .array .long) (ws' := [(o0, .inr (0, [.int 0, .int 0, .int (-1), .null, .null, .null, .ref q_1, .ref q_3, .int 0, .null])), (q_1, .inl (k_2, 30, .inl (fun _ => 0))), (q_3, .inl (k_4, 30, .inr (.inl (fun _ => 0))))]) E h (fun w h => List.mem_cons_of_mem _ (List.mem_append_right _ h)) tyX0_ok nmX0 0 rfl rfl 7 (by decide) (List.mem_of_getElem? (i := 8) rfl) rfl hnm rfl (by decide +kernel) rfl rfl (Nat.le_of_ble_eq_true rfl) rfl dX0_init_22 (fun H locs h => ?_)
  refine W.eq (g2 := F0 m 25 ls []) rfl ?_
  refine lv_aload_n hx hb dX0_init_25 rfl (lv_at hl 0 rfl) ?_
  refine lv_bipush (v := 74) hx hb dX0_init_26 (by decide) ?_
  refine k_newa (ty := .long) (N' := 74) (a0 := (74, .inr (.inl (fun _ => 0)))) (k := 3) (z := 134) E h (List.mem_of_getElem? (i := 7) rfl) rfl (fun _ => rfl) (by decide) (by decide) (by decide) (Nat.le_of_ble_eq_true rfl) (Nat.le_of_ble_eq_true rfl) dX0_init_28 (Nat.le_of_ble_eq_true rfl) (Nat.le_of_ble_eq_true rfl) (fun q_5 k_6 H h => ?_)
  have h : KS (dC, dI) A [(o0, .inr (0, [.int 0, .int 0, .int (-1), .null, .null, .null, .ref q_1, .ref q_3, .int 0, .null])), (q_1, .inl (k_2, 30, .inl (fun _ => 0))), (q_3, .inl (k_4, 30, .inr (.inl (fun _ => 0)))), (q_5, .inl (k_6, 74, .inr (.inl (fun _ => 0))))] [(k_2, .int), (k_4, .long), (k_6, .long)] s H _ := h
  refine k_putF (v := .ref q_5) (ty := .array .long) (ws' := [(o0, .inr (0, [.int 0, .int 0, .int (-1), .null, .null, .null, .ref q_1, .ref q_3, .int 0, .ref q_5])), (q_1, .inl (k_2, 30, .inl (fun _ => 0))), (q_3, .inl (k_4, 30, .inr (.inl (fun _ => 0)))), (q_5, .inl (k_6, 74, .inr (.inl (fun _ => 0))))]) E h (fun w h => List.mem_cons_of_mem _ (List.mem_append_right _ h)) tyX0_ok nmX0 0 rfl rfl 9 (by decide) (List.mem_of_getElem? (i := 9) rfl) rfl hnm rfl (by decide +kernel) rfl rfl (Nat.le_of_ble_eq_true rfl) rfl dX0_init_30 (fun H locs h => ?_)
  refine lv_aload_n hx hb dX0_init_33 rfl (lv_at hl 0 rfl) ?_
  refine lv_aload_n hx hb dX0_init_34 rfl (lv_at hl 1 rfl) ?_
  refine k_putF (v := .ref o2) (ty := .object "StepStore$Inside") (ws' := [(o0, .inr (0, [.int 0, .int 0, .int (-1), .ref o2, .null, .null, .ref q_1, .ref q_3, .int 0, .ref q_5])), (q_1, .inl (k_2, 30, .inl (fun _ => 0))), (q_3, .inl (k_4, 30, .inr (.inl (fun _ => 0)))), (q_5, .inl (k_6, 74, .inr (.inl (fun _ => 0))))]) E h (fun w h => List.mem_cons_of_mem _ (List.mem_append_right _ h)) tyX0_ok nmX0 0 rfl rfl 3 (by decide) (List.mem_of_getElem? (i := 10) rfl) rfl hnm rfl (by decide +kernel) rfl rfl (Nat.le_of_ble_eq_true rfl) rfl dX0_init_35 (fun H locs h => ?_)
  refine lv_aload_n hx hb dX0_init_38 rfl (lv_at hl 0 rfl) ?_
  refine lv_aload_n hx hb dX0_init_39 rfl (lv_at hl 2 rfl) ?_
  refine k_putF (v := .ref o5) (ty := .object "StepStore$Rows") (ws' := [(o0, .inr (0, [.int 0, .int 0, .int (-1), .ref o2, .ref o5, .null, .ref q_1, .ref q_3, .int 0, .ref q_5])), (q_1, .inl (k_2, 30, .inl (fun _ => 0))), (q_3, .inl (k_4, 30, .inr (.inl (fun _ => 0)))), (q_5, .inl (k_6, 74, .inr (.inl (fun _ => 0))))]) E h (fun w h => List.mem_cons_of_mem _ (List.mem_append_right _ h)) tyX0_ok nmX0 0 rfl rfl 4 (by decide) (List.mem_of_getElem? (i := 11) rfl) rfl hnm rfl (by decide +kernel) rfl rfl (Nat.le_of_ble_eq_true rfl) rfl dX0_init_40 (fun H locs h => ?_)
  refine lv_aload_n hx hb dX0_init_43 rfl (lv_at hl 0 rfl) ?_
  refine lv_aload_n hx hb dX0_init_44 rfl (lv_at hl 3 rfl) ?_
  refine W.eq (g2 := F0 m 45 ls [.ref o3, .ref o0]) rfl ?_
  refine k_putF (v := .ref o3) (ty := .object "StepStore$Packing") (ws' := [(o0, .inr (0, [.int 0, .int 0, .int (-1), .ref o2, .ref o5, .ref o3, .ref q_1, .ref q_3, .int 0, .ref q_5])), (q_1, .inl (k_2, 30, .inl (fun _ => 0))), (q_3, .inl (k_4, 30, .inr (.inl (fun _ => 0)))), (q_5, .inl (k_6, 74, .inr (.inl (fun _ => 0))))]) E h (fun w h => List.mem_cons_of_mem _ (List.mem_append_right _ h)) tyX0_ok nmX0 0 rfl rfl 5 (by decide) (List.mem_of_getElem? (i := 12) rfl) rfl hnm rfl (by decide +kernel) rfl rfl (Nat.le_of_ble_eq_true rfl) rfl dX0_init_45 (fun H locs h => ?_)
  have hP9 := h.2.1.sub [0, 1, 2, 3] rfl
  have hD9 := h.2.2.1.sub (ws' := [(o0, .inr (0, [.int 0, .int 0, .int (-1), .ref o2, .ref o5, .ref o3, .ref q_1, .ref q_3, .int 0, .ref q_5])), (q_1, .inl (k_2, 30, .inl (fun _ => 0))), (q_3, .inl (k_4, 30, .inr (.inl (fun _ => 0)))), (q_5, .inl (k_6, 74, .inr (.inl (fun _ => 0))))]) [0, 1, 2, 3] (by decide) rfl
  have hK9 := h.1.sub (tys' := [(k_2, .int), (k_4, .long), (k_6, .long)]) [0, 1, 2] rfl
  exact W.vret hx hb hr (fun t ht hW => ⟨⟨(fun i => [q_1, q_3, q_5].getD i 0, fun i => [k_2, k_4, k_6].getD i 0), rfl, trivial, (by rw [ht]; exact hP9), hD9, va_K.moved hW.alike hK9⟩, h.2.2.2.1.F ht⟩) h.2.2.2.1.2.2 dX0_init_48 hlocks
set_option maxHeartbeats 4000000 in
set_option maxRecDepth 100000 in
theorem c_X7_init (l : Launch) (dC : Nat → ClassId) (dI : Nat → Nat → Nat) (sz : Nat) (o7 : Nat)  : Met l yX7_init wsX7_init ({ frames := 3, cells := 49, slots := 3446, locals := 62 } : Room) (va_Pc [.ref o7] (KPre (dC, dI) [(o7, .inr (7, [.null, .null, .null, .null, .null, .null, .null, .null, .int 0, .int 0, .int 0, .null, .int 0, .null, .int 0, .null]))] [] sz (fun U => va_Nw (.methodLinkNest RX7 18 yX5_init RX7) U))) (va_Qv (fun (u : (Nat → Nat) × (Nat → ClassId) × Nat × (Nat → Nat) × (Nat → ClassId) × Nat × (Nat → Nat) × (Nat → ClassId) × Nat × (Nat → Nat) × (Nat → ClassId) × Nat × (Nat → Nat) × (Nat → ClassId) × Nat × (Nat → Nat) × (Nat → ClassId) × Nat × (Nat → Nat) × (Nat → ClassId) × Nat × (Nat → Nat) × (Nat → ClassId)) => True) (KPostK (dC, dI) (va_A [(o7, .inr (7, [.null, .null, .null, .null, .null, .null, .null, .null, .int 0, .int 0, .int 0, .null, .int 0, .null, .int 0, .null]))] sz) (fun (u : (Nat → Nat) × (Nat → ClassId) × Nat × (Nat → Nat) × (Nat → ClassId) × Nat × (Nat → Nat) × (Nat → ClassId) × Nat × (Nat → Nat) × (Nat → ClassId) × Nat × (Nat → Nat) × (Nat → ClassId) × Nat × (Nat → Nat) × (Nat → ClassId) × Nat × (Nat → Nat) × (Nat → ClassId) × Nat × (Nat → Nat) × (Nat → ClassId)) => [(o7, .inr (7, [.ref u.2.2.1, .ref u.2.2.2.2.2.1, .ref u.2.2.2.2.2.2.2.2.1, .ref u.2.2.2.2.2.2.2.2.2.2.2.2.2.2.1, .ref u.2.2.2.2.2.2.2.2.2.2.2.2.2.2.2.2.2.1, .ref u.2.2.2.2.2.2.2.2.2.2.2.2.2.2.2.2.2.2.2.2.1, .ref (u.1 0), .ref (u.1 1), .int 0, .int 0, .int 0, .ref (u.1 2), .int 0, .ref (u.1 3), .int (-1), .ref (u.1 4)])), ((u.1 0), .inl ((u.2.1 0), 3, .inl (upd (fun _ => 0) 2 (-1)))), ((u.1 1), .inl ((u.2.1 1), 16, .inl (fun _ => (-1)))), ((u.1 2), .inl ((u.2.1 2), 74, .inr (.inl (fun _ => 0)))), ((u.1 3), .inl ((u.2.1 3), 64, .inl (fun _ => 0))), ((u.1 4), .inl ((u.2.1 4), 8, .inl (fun _ => 0))), (u.2.2.1, .inr (2, [.ref (u.2.2.2.1 0), .ref (u.2.2.2.1 1), .ref (u.2.2.2.1 2), .ref (u.2.2.2.1 3), .int 0])), ((u.2.2.2.1 0), .inl ((u.2.2.2.2.1 0), 8, .inl (fun _ => 16))), ((u.2.2.2.1 1), .inl ((u.2.2.2.2.1 1), 74, .inr (.inl (fun _ => 0)))), ((u.2.2.2.1 2), .inl ((u.2.2.2.2.1 2), 30, .inl (fun _ => 0))), ((u.2.2.2.1 3), .inl ((u.2.2.2.2.1 3), 30, .inr (.inl (fun _ => 0)))), (u.2.2.2.2.2.1, .inr (5, [.ref (u.2.2.2.2.2.2.1 0), .ref (u.2.2.2.2.2.2.1 1), .ref (u.2.2.2.2.2.2.1 2), .ref (u.2.2.2.2.2.2.1 3), .ref (u.2.2.2.2.2.2.1 4), .ref (u.2.2.2.2.2.2.1 5), .ref (u.2.2.2.2.2.2.1 6)])), ((u.2.2.2.2.2.2.1 0), .inl ((u.2.2.2.2.2.2.2.1 0), 12, .inl (fun _ => 0))), ((u.2.2.2.2.2.2.1 1), .inl ((u.2.2.2.2.2.2.2.1 1), 120, .inl (fun _ => 0))), ((u.2.2.2.2.2.2.1 2), .inl ((u.2.2.2.2.2.2.2.1 2), 120, .inl (fun _ => 0))), ((u.2.2.2.2.2.2.1 3), .inl ((u.2.2.2.2.2.2.2.1 3), 120, .inl (fun _ => 0))), ((u.2.2.2.2.2.2.1 4), .inl ((u.2.2.2.2.2.2.2.1 4), 120, .inl (fun _ => 0))), ((u.2.2.2.2.2.2.1 5), .inl ((u.2.2.2.2.2.2.2.1 5), 120, .inl (fun _ => 0))), ((u.2.2.2.2.2.2.1 6), .inl ((u.2.2.2.2.2.2.2.1 6), 120, .inl (fun _ => 0))), (u.2.2.2.2.2.2.2.2.1, .inr (3, [.ref (u.2.2.2.2.2.2.2.2.2.1 0), .ref (u.2.2.2.2.2.2.2.2.2.1 1), .ref (u.2.2.2.2.2.2.2.2.2.1 2), .ref (u.2.2.2.2.2.2.2.2.2.1 3), .int 1, .ref u.2.2.2.2.2.1, .ref u.2.2.2.2.2.2.2.2.2.2.2.1])), ((u.2.2.2.2.2.2.2.2.2.1 0), .inl ((u.2.2.2.2.2.2.2.2.2.2.1 0), 12, .inl (fun _ => 0))), ((u.2.2.2.2.2.2.2.2.2.1 1), .inl ((u.2.2.2.2.2.2.2.2.2.2.1 1), 12, .inl (fun _ => 0))), ((u.2.2.2.2.2.2.2.2.2.1 2), .inl ((u.2.2.2.2.2.2.2.2.2.2.1 2), 120, .inl (fun _ => 0))), ((u.2.2.2.2.2.2.2.2.2.1 3), .inl ((u.2.2.2.2.2.2.2.2.2.2.1 3), 120, .inl (fun _ => 0))), (u.2.2.2.2.2.2.2.2.2.2.2.1, .inr (6, [.ref (u.2.2.2.2.2.2.2.2.2.2.2.2.1 0), .ref u.2.2.2.2.2.1, .ref (u.2.2.2.2.2.2.2.2.2.2.2.2.1 1), .ref (u.2.2.2.2.2.2.2.2.2.2.2.2.1 2), .ref (u.2.2.2.2.2.2.2.2.2.2.2.2.1 3), .ref (u.2.2.2.2.2.2.2.2.2.2.2.2.1 4), .ref (u.2.2.2.2.2.2.2.2.2.2.2.2.1 5), .ref (u.2.2.2.2.2.2.2.2.2.2.2.2.1 6), .int 0, .int 0])), ((u.2.2.2.2.2.2.2.2.2.2.2.2.1 0), .inl ((u.2.2.2.2.2.2.2.2.2.2.2.2.2.1 0), 10, .inl (fun _ => 0))), ((u.2.2.2.2.2.2.2.2.2.2.2.2.1 1), .inl ((u.2.2.2.2.2.2.2.2.2.2.2.2.2.1 1), 10, .inl (fun _ => 0))), ((u.2.2.2.2.2.2.2.2.2.2.2.2.1 2), .inl ((u.2.2.2.2.2.2.2.2.2.2.2.2.2.1 2), 10, .inl (fun _ => 0))), ((u.2.2.2.2.2.2.2.2.2.2.2.2.1 3), .inl ((u.2.2.2.2.2.2.2.2.2.2.2.2.2.1 3), 10, .inl (fun _ => 0))), ((u.2.2.2.2.2.2.2.2.2.2.2.2.1 4), .inl ((u.2.2.2.2.2.2.2.2.2.2.2.2.2.1 4), 5, .inl (fun _ => 0))), ((u.2.2.2.2.2.2.2.2.2.2.2.2.1 5), .inl ((u.2.2.2.2.2.2.2.2.2.2.2.2.2.1 5), 5, .inl (fun _ => 0))), ((u.2.2.2.2.2.2.2.2.2.2.2.2.1 6), .inl ((u.2.2.2.2.2.2.2.2.2.2.2.2.2.1 6), 1024, .inl (fun _ => 0))), (u.2.2.2.2.2.2.2.2.2.2.2.2.2.2.1, .inr (4, [.int 0, .int 0, .ref (u.2.2.2.2.2.2.2.2.2.2.2.2.2.2.2.1 0), .ref (u.2.2.2.2.2.2.2.2.2.2.2.2.2.2.2.1 1), .ref (u.2.2.2.2.2.2.2.2.2.2.2.2.2.2.2.1 2), .ref (u.2.2.2.2.2.2.2.2.2.2.2.2.2.2.2.1 3), .ref (u.2.2.2.2.2.2.2.2.2.2.2.2.2.2.2.1 4), .ref u.2.2.2.2.2.1, .ref u.2.2.2.2.2.2.2.2.1])), ((u.2.2.2.2.2.2.2.2.2.2.2.2.2.2.2.1 0), .inl ((u.2.2.2.2.2.2.2.2.2.2.2.2.2.2.2.2.1 0), 120, .inl (fun _ => 0))), ((u.2.2.2.2.2.2.2.2.2.2.2.2.2.2.2.1 1), .inl ((u.2.2.2.2.2.2.2.2.2.2.2.2.2.2.2.2.1 1), 120, .inl (fun _ => 0))), ((u.2.2.2.2.2.2.2.2.2.2.2.2.2.2.2.1 2), .inl ((u.2.2.2.2.2.2.2.2.2.2.2.2.2.2.2.2.1 2), 120, .inl (fun _ => 0))), ((u.2.2.2.2.2.2.2.2.2.2.2.2.2.2.2.1 3), .inl ((u.2.2.2.2.2.2.2.2.2.2.2.2.2.2.2.2.1 3), 120, .inl (fun _ => 0))), ((u.2.2.2.2.2.2.2.2.2.2.2.2.2.2.2.1 4), .inl ((u.2.2.2.2.2.2.2.2.2.2.2.2.2.2.2.2.1 4), 120, .inl (fun _ => 0))), (u.2.2.2.2.2.2.2.2.2.2.2.2.2.2.2.2.2.1, .inr (1, [.ref (u.2.2.2.2.2.2.2.2.2.2.2.2.2.2.2.2.2.2.1 0), .int 0, .int 0, .int 0, .ref (u.2.2.2.2.2.2.2.2.2.2.2.2.2.2.2.2.2.2.1 1), .ref (u.2.2.2.2.2.2.2.2.2.2.2.2.2.2.2.2.2.2.1 2), .ref (u.2.2.2.2.2.2.2.2.2.2.2.2.2.2.2.2.2.2.1 3), .ref (u.2.2.2.2.2.2.2.2.2.2.2.2.2.2.2.2.2.2.1 4), .ref (u.2.2.2.2.2.2.2.2.2.2.2.2.2.2.2.2.2.2.1 5), .ref (u.2.2.2.2.2.2.2.2.2.2.2.2.2.2.2.2.2.2.1 6), .ref u.2.2.2.2.2.1, .ref u.2.2.2.2.2.2.2.2.2.2.2.2.2.2.1])), ((u.2.2.2.2.2.2.2.2.2.2.2.2.2.2.2.2.2.2.1 0), .inl ((u.2.2.2.2.2.2.2.2.2.2.2.2.2.2.2.2.2.2.2.1 0), 7, .inl (fun _ => 0))), ((u.2.2.2.2.2.2.2.2.2.2.2.2.2.2.2.2.2.2.1 1), .inl ((u.2.2.2.2.2.2.2.2.2.2.2.2.2.2.2.2.2.2.2.1 1), 120, .inl (fun _ => 0))), ((u.2.2.2.2.2.2.2.2.2.2.2.2.2.2.2.2.2.2.1 2), .inl ((u.2.2.2.2.2.2.2.2.2.2.2.2.2.2.2.2.2.2.2.1 2), 120, .inl (fun _ => 0))), ((u.2.2.2.2.2.2.2.2.2.2.2.2.2.2.2.2.2.2.1 3), .inl ((u.2.2.2.2.2.2.2.2.2.2.2.2.2.2.2.2.2.2.2.1 3), 7, .inl (fun _ => 0))), ((u.2.2.2.2.2.2.2.2.2.2.2.2.2.2.2.2.2.2.1 4), .inl ((u.2.2.2.2.2.2.2.2.2.2.2.2.2.2.2.2.2.2.2.1 4), 7, .inl (fun _ => 0))), ((u.2.2.2.2.2.2.2.2.2.2.2.2.2.2.2.2.2.2.1 5), .inl ((u.2.2.2.2.2.2.2.2.2.2.2.2.2.2.2.2.2.2.2.1 5), 7, .inl (fun _ => 0))), ((u.2.2.2.2.2.2.2.2.2.2.2.2.2.2.2.2.2.2.1 6), .inl ((u.2.2.2.2.2.2.2.2.2.2.2.2.2.2.2.2.2.2.2.1 6), 7, .inl (fun _ => 0))), (u.2.2.2.2.2.2.2.2.2.2.2.2.2.2.2.2.2.2.2.2.1, .inr (0, [.int 0, .int 0, .int (-1), .ref u.2.2.1, .ref u.2.2.2.2.2.1, .ref u.2.2.2.2.2.2.2.2.1, .ref (u.2.2.2.2.2.2.2.2.2.2.2.2.2.2.2.2.2.2.2.2.2.1 0), .ref (u.2.2.2.2.2.2.2.2.2.2.2.2.2.2.2.2.2.2.2.2.2.1 1), .int 0, .ref (u.2.2.2.2.2.2.2.2.2.2.2.2.2.2.2.2.2.2.2.2.2.1 2)])), ((u.2.2.2.2.2.2.2.2.2.2.2.2.2.2.2.2.2.2.2.2.2.1 0), .inl ((u.2.2.2.2.2.2.2.2.2.2.2.2.2.2.2.2.2.2.2.2.2.2 0), 30, .inl (fun _ => 0))), ((u.2.2.2.2.2.2.2.2.2.2.2.2.2.2.2.2.2.2.2.2.2.1 1), .inl ((u.2.2.2.2.2.2.2.2.2.2.2.2.2.2.2.2.2.2.2.2.2.2 1), 30, .inr (.inl (fun _ => 0)))), ((u.2.2.2.2.2.2.2.2.2.2.2.2.2.2.2.2.2.2.2.2.2.1 2), .inl ((u.2.2.2.2.2.2.2.2.2.2.2.2.2.2.2.2.2.2.2.2.2.2 2), 74, .inr (.inl (fun _ => 0))))]) (fun (u : (Nat → Nat) × (Nat → ClassId) × Nat × (Nat → Nat) × (Nat → ClassId) × Nat × (Nat → Nat) × (Nat → ClassId) × Nat × (Nat → Nat) × (Nat → ClassId) × Nat × (Nat → Nat) × (Nat → ClassId) × Nat × (Nat → Nat) × (Nat → ClassId) × Nat × (Nat → Nat) × (Nat → ClassId) × Nat × (Nat → Nat) × (Nat → ClassId)) => [((u.2.1 0), .int), ((u.2.1 1), .int), ((u.2.1 2), .long), ((u.2.1 3), .short), ((u.2.1 4), .int), ((u.2.2.2.2.1 0), .int), ((u.2.2.2.2.1 1), .long), ((u.2.2.2.2.1 2), .int), ((u.2.2.2.2.1 3), .long), ((u.2.2.2.2.2.2.2.1 0), .int), ((u.2.2.2.2.2.2.2.1 1), .int), ((u.2.2.2.2.2.2.2.1 2), .int), ((u.2.2.2.2.2.2.2.1 3), .int), ((u.2.2.2.2.2.2.2.1 4), .int), ((u.2.2.2.2.2.2.2.1 5), .int), ((u.2.2.2.2.2.2.2.1 6), .int), ((u.2.2.2.2.2.2.2.2.2.2.1 0), .boolean), ((u.2.2.2.2.2.2.2.2.2.2.1 1), .int), ((u.2.2.2.2.2.2.2.2.2.2.1 2), .int), ((u.2.2.2.2.2.2.2.2.2.2.1 3), .int), ((u.2.2.2.2.2.2.2.2.2.2.2.2.2.1 0), .int), ((u.2.2.2.2.2.2.2.2.2.2.2.2.2.1 1), .int), ((u.2.2.2.2.2.2.2.2.2.2.2.2.2.1 2), .int), ((u.2.2.2.2.2.2.2.2.2.2.2.2.2.1 3), .int), ((u.2.2.2.2.2.2.2.2.2.2.2.2.2.1 4), .int), ((u.2.2.2.2.2.2.2.2.2.2.2.2.2.1 5), .int), ((u.2.2.2.2.2.2.2.2.2.2.2.2.2.1 6), .byte), ((u.2.2.2.2.2.2.2.2.2.2.2.2.2.2.2.2.1 0), .int), ((u.2.2.2.2.2.2.2.2.2.2.2.2.2.2.2.2.1 1), .int), ((u.2.2.2.2.2.2.2.2.2.2.2.2.2.2.2.2.1 2), .int), ((u.2.2.2.2.2.2.2.2.2.2.2.2.2.2.2.2.1 3), .int), ((u.2.2.2.2.2.2.2.2.2.2.2.2.2.2.2.2.1 4), .int), ((u.2.2.2.2.2.2.2.2.2.2.2.2.2.2.2.2.2.2.2.1 0), .int), ((u.2.2.2.2.2.2.2.2.2.2.2.2.2.2.2.2.2.2.2.1 1), .int), ((u.2.2.2.2.2.2.2.2.2.2.2.2.2.2.2.2.2.2.2.1 2), .int), ((u.2.2.2.2.2.2.2.2.2.2.2.2.2.2.2.2.2.2.2.1 3), .int), ((u.2.2.2.2.2.2.2.2.2.2.2.2.2.2.2.2.2.2.2.1 4), .int), ((u.2.2.2.2.2.2.2.2.2.2.2.2.2.2.2.2.2.2.2.1 5), .int), ((u.2.2.2.2.2.2.2.2.2.2.2.2.2.2.2.2.2.2.2.1 6), .int), ((u.2.2.2.2.2.2.2.2.2.2.2.2.2.2.2.2.2.2.2.2.2.2 0), .int), ((u.2.2.2.2.2.2.2.2.2.2.2.2.2.2.2.2.2.2.2.2.2.2 1), .long), ((u.2.2.2.2.2.2.2.2.2.2.2.2.2.2.2.2.2.2.2.2.2.2 2), .long)])) (va_A [(o7, .inr (7, [.null, .null, .null, .null, .null, .null, .null, .null, .int 0, .int 0, .int 0, .null, .int 0, .null, .int 0, .null]))] sz)) 49 3446 (va_A [(o7, .inr (7, [.null, .null, .null, .null, .null, .null, .null, .null, .int 0, .int 0, .int 0, .null, .int 0, .null, .int 0, .null]))] sz) := by
  refine kMet (y := yX7_init) (wsM := wsX7_init) (cc := cX7_init) (maxL := 1) (ret := none) (rm := ({ frames := 3, cells := 49, slots := 3446, locals := 62 } : Room)) (mc := 49) (ms := 3446) (av := [.ref o7]) (D := (dC, dI)) (wc := [(o7, .inr (7, [.null, .null, .null, .null, .null, .null, .null, .null, .int 0, .int 0, .int 0, .null, .int 0, .null, .int 0, .null]))]) (tc := []) (sz := sz) (X := fun U => va_Nw (.methodLinkNest RX7 18 yX5_init RX7) U) (Qc := fun A => va_Qv (fun (u : (Nat → Nat) × (Nat → ClassId) × Nat × (Nat → Nat) × (Nat → ClassId) × Nat × (Nat → Nat) × (Nat → ClassId) × Nat × (Nat → Nat) × (Nat → ClassId) × Nat × (Nat → Nat) × (Nat → ClassId) × Nat × (Nat → Nat) × (Nat → ClassId) × Nat × (Nat → Nat) × (Nat → ClassId) × Nat × (Nat → Nat) × (Nat → ClassId)) => True) (KPostK (dC, dI) A (fun (u : (Nat → Nat) × (Nat → ClassId) × Nat × (Nat → Nat) × (Nat → ClassId) × Nat × (Nat → Nat) × (Nat → ClassId) × Nat × (Nat → Nat) × (Nat → ClassId) × Nat × (Nat → Nat) × (Nat → ClassId) × Nat × (Nat → Nat) × (Nat → ClassId) × Nat × (Nat → Nat) × (Nat → ClassId) × Nat × (Nat → Nat) × (Nat → ClassId)) => [(o7, .inr (7, [.ref u.2.2.1, .ref u.2.2.2.2.2.1, .ref u.2.2.2.2.2.2.2.2.1, .ref u.2.2.2.2.2.2.2.2.2.2.2.2.2.2.1, .ref u.2.2.2.2.2.2.2.2.2.2.2.2.2.2.2.2.2.1, .ref u.2.2.2.2.2.2.2.2.2.2.2.2.2.2.2.2.2.2.2.2.1, .ref (u.1 0), .ref (u.1 1), .int 0, .int 0, .int 0, .ref (u.1 2), .int 0, .ref (u.1 3), .int (-1), .ref (u.1 4)])), ((u.1 0), .inl ((u.2.1 0), 3, .inl (upd (fun _ => 0) 2 (-1)))), ((u.1 1), .inl ((u.2.1 1), 16, .inl (fun _ => (-1)))), ((u.1 2), .inl ((u.2.1 2), 74, .inr (.inl (fun _ => 0)))), ((u.1 3), .inl ((u.2.1 3), 64, .inl (fun _ => 0))), ((u.1 4), .inl ((u.2.1 4), 8, .inl (fun _ => 0))), (u.2.2.1, .inr (2, [.ref (u.2.2.2.1 0), .ref (u.2.2.2.1 1), .ref (u.2.2.2.1 2), .ref (u.2.2.2.1 3), .int 0])), ((u.2.2.2.1 0), .inl ((u.2.2.2.2.1 0), 8, .inl (fun _ => 16))), ((u.2.2.2.1 1), .inl ((u.2.2.2.2.1 1), 74, .inr (.inl (fun _ => 0)))), ((u.2.2.2.1 2), .inl ((u.2.2.2.2.1 2), 30, .inl (fun _ => 0))), ((u.2.2.2.1 3), .inl ((u.2.2.2.2.1 3), 30, .inr (.inl (fun _ => 0)))), (u.2.2.2.2.2.1, .inr (5, [.ref (u.2.2.2.2.2.2.1 0), .ref (u.2.2.2.2.2.2.1 1), .ref (u.2.2.2.2.2.2.1 2), .ref (u.2.2.2.2.2.2.1 3), .ref (u.2.2.2.2.2.2.1 4), .ref (u.2.2.2.2.2.2.1 5), .ref (u.2.2.2.2.2.2.1 6)])), ((u.2.2.2.2.2.2.1 0), .inl ((u.2.2.2.2.2.2.2.1 0), 12, .inl (fun _ => 0))), ((u.2.2.2.2.2.2.1 1), .inl ((u.2.2.2.2.2.2.2.1 1), 120, .inl (fun _ => 0))), ((u.2.2.2.2.2.2.1 2), .inl ((u.2.2.2.2.2.2.2.1 2), 120, .inl (fun _ => 0))), ((u.2.2.2.2.2.2.1 3), .inl ((u.2.2.2.2.2.2.2.1 3), 120, .inl (fun _ => 0))), ((u.2.2.2.2.2.2.1 4), .inl ((u.2.2.2.2.2.2.2.1 4), 120, .inl (fun _ => 0))), ((u.2.2.2.2.2.2.1 5), .inl ((u.2.2.2.2.2.2.2.1 5), 120, .inl (fun _ => 0))), ((u.2.2.2.2.2.2.1 6), .inl ((u.2.2.2.2.2.2.2.1 6), 120, .inl (fun _ => 0))), (u.2.2.2.2.2.2.2.2.1, .inr (3, [.ref (u.2.2.2.2.2.2.2.2.2.1 0), .ref (u.2.2.2.2.2.2.2.2.2.1 1), .ref (u.2.2.2.2.2.2.2.2.2.1 2), .ref (u.2.2.2.2.2.2.2.2.2.1 3), .int 1, .ref u.2.2.2.2.2.1, .ref u.2.2.2.2.2.2.2.2.2.2.2.1])), ((u.2.2.2.2.2.2.2.2.2.1 0), .inl ((u.2.2.2.2.2.2.2.2.2.2.1 0), 12, .inl (fun _ => 0))), ((u.2.2.2.2.2.2.2.2.2.1 1), .inl ((u.2.2.2.2.2.2.2.2.2.2.1 1), 12, .inl (fun _ => 0))), ((u.2.2.2.2.2.2.2.2.2.1 2), .inl ((u.2.2.2.2.2.2.2.2.2.2.1 2), 120, .inl (fun _ => 0))), ((u.2.2.2.2.2.2.2.2.2.1 3), .inl ((u.2.2.2.2.2.2.2.2.2.2.1 3), 120, .inl (fun _ => 0))), (u.2.2.2.2.2.2.2.2.2.2.2.1, .inr (6, [.ref (u.2.2.2.2.2.2.2.2.2.2.2.2.1 0), .ref u.2.2.2.2.2.1, .ref (u.2.2.2.2.2.2.2.2.2.2.2.2.1 1), .ref (u.2.2.2.2.2.2.2.2.2.2.2.2.1 2), .ref (u.2.2.2.2.2.2.2.2.2.2.2.2.1 3), .ref (u.2.2.2.2.2.2.2.2.2.2.2.2.1 4), .ref (u.2.2.2.2.2.2.2.2.2.2.2.2.1 5), .ref (u.2.2.2.2.2.2.2.2.2.2.2.2.1 6), .int 0, .int 0])), ((u.2.2.2.2.2.2.2.2.2.2.2.2.1 0), .inl ((u.2.2.2.2.2.2.2.2.2.2.2.2.2.1 0), 10, .inl (fun _ => 0))), ((u.2.2.2.2.2.2.2.2.2.2.2.2.1 1), .inl ((u.2.2.2.2.2.2.2.2.2.2.2.2.2.1 1), 10, .inl (fun _ => 0))), ((u.2.2.2.2.2.2.2.2.2.2.2.2.1 2), .inl ((u.2.2.2.2.2.2.2.2.2.2.2.2.2.1 2), 10, .inl (fun _ => 0))), ((u.2.2.2.2.2.2.2.2.2.2.2.2.1 3), .inl ((u.2.2.2.2.2.2.2.2.2.2.2.2.2.1 3), 10, .inl (fun _ => 0))), ((u.2.2.2.2.2.2.2.2.2.2.2.2.1 4), .inl ((u.2.2.2.2.2.2.2.2.2.2.2.2.2.1 4), 5, .inl (fun _ => 0))), ((u.2.2.2.2.2.2.2.2.2.2.2.2.1 5), .inl ((u.2.2.2.2.2.2.2.2.2.2.2.2.2.1 5), 5, .inl (fun _ => 0))), ((u.2.2.2.2.2.2.2.2.2.2.2.2.1 6), .inl ((u.2.2.2.2.2.2.2.2.2.2.2.2.2.1 6), 1024, .inl (fun _ => 0))), (u.2.2.2.2.2.2.2.2.2.2.2.2.2.2.1, .inr (4, [.int 0, .int 0, .ref (u.2.2.2.2.2.2.2.2.2.2.2.2.2.2.2.1 0), .ref (u.2.2.2.2.2.2.2.2.2.2.2.2.2.2.2.1 1), .ref (u.2.2.2.2.2.2.2.2.2.2.2.2.2.2.2.1 2), .ref (u.2.2.2.2.2.2.2.2.2.2.2.2.2.2.2.1 3), .ref (u.2.2.2.2.2.2.2.2.2.2.2.2.2.2.2.1 4), .ref u.2.2.2.2.2.1, .ref u.2.2.2.2.2.2.2.2.1])), ((u.2.2.2.2.2.2.2.2.2.2.2.2.2.2.2.1 0), .inl ((u.2.2.2.2.2.2.2.2.2.2.2.2.2.2.2.2.1 0), 120, .inl (fun _ => 0))), ((u.2.2.2.2.2.2.2.2.2.2.2.2.2.2.2.1 1), .inl ((u.2.2.2.2.2.2.2.2.2.2.2.2.2.2.2.2.1 1), 120, .inl (fun _ => 0))), ((u.2.2.2.2.2.2.2.2.2.2.2.2.2.2.2.1 2), .inl ((u.2.2.2.2.2.2.2.2.2.2.2.2.2.2.2.2.1 2), 120, .inl (fun _ => 0))), ((u.2.2.2.2.2.2.2.2.2.2.2.2.2.2.2.1 3), .inl ((u.2.2.2.2.2.2.2.2.2.2.2.2.2.2.2.2.1 3), 120, .inl (fun _ => 0))), ((u.2.2.2.2.2.2.2.2.2.2.2.2.2.2.2.1 4), .inl ((u.2.2.2.2.2.2.2.2.2.2.2.2.2.2.2.2.1 4), 120, .inl (fun _ => 0))), (u.2.2.2.2.2.2.2.2.2.2.2.2.2.2.2.2.2.1, .inr (1, [.ref (u.2.2.2.2.2.2.2.2.2.2.2.2.2.2.2.2.2.2.1 0), .int 0, .int 0, .int 0, .ref (u.2.2.2.2.2.2.2.2.2.2.2.2.2.2.2.2.2.2.1 1), .ref (u.2.2.2.2.2.2.2.2.2.2.2.2.2.2.2.2.2.2.1 2), .ref (u.2.2.2.2.2.2.2.2.2.2.2.2.2.2.2.2.2.2.1 3), .ref (u.2.2.2.2.2.2.2.2.2.2.2.2.2.2.2.2.2.2.1 4), .ref (u.2.2.2.2.2.2.2.2.2.2.2.2.2.2.2.2.2.2.1 5), .ref (u.2.2.2.2.2.2.2.2.2.2.2.2.2.2.2.2.2.2.1 6), .ref u.2.2.2.2.2.1, .ref u.2.2.2.2.2.2.2.2.2.2.2.2.2.2.1])), ((u.2.2.2.2.2.2.2.2.2.2.2.2.2.2.2.2.2.2.1 0), .inl ((u.2.2.2.2.2.2.2.2.2.2.2.2.2.2.2.2.2.2.2.1 0), 7, .inl (fun _ => 0))), ((u.2.2.2.2.2.2.2.2.2.2.2.2.2.2.2.2.2.2.1 1), .inl ((u.2.2.2.2.2.2.2.2.2.2.2.2.2.2.2.2.2.2.2.1 1), 120, .inl (fun _ => 0))), ((u.2.2.2.2.2.2.2.2.2.2.2.2.2.2.2.2.2.2.1 2), .inl ((u.2.2.2.2.2.2.2.2.2.2.2.2.2.2.2.2.2.2.2.1 2), 120, .inl (fun _ => 0))), ((u.2.2.2.2.2.2.2.2.2.2.2.2.2.2.2.2.2.2.1 3), .inl ((u.2.2.2.2.2.2.2.2.2.2.2.2.2.2.2.2.2.2.2.1 3), 7, .inl (fun _ => 0))), ((u.2.2.2.2.2.2.2.2.2.2.2.2.2.2.2.2.2.2.1 4), .inl ((u.2.2.2.2.2.2.2.2.2.2.2.2.2.2.2.2.2.2.2.1 4), 7, .inl (fun _ => 0))), ((u.2.2.2.2.2.2.2.2.2.2.2.2.2.2.2.2.2.2.1 5), .inl ((u.2.2.2.2.2.2.2.2.2.2.2.2.2.2.2.2.2.2.2.1 5), 7, .inl (fun _ => 0))), ((u.2.2.2.2.2.2.2.2.2.2.2.2.2.2.2.2.2.2.1 6), .inl ((u.2.2.2.2.2.2.2.2.2.2.2.2.2.2.2.2.2.2.2.1 6), 7, .inl (fun _ => 0))), (u.2.2.2.2.2.2.2.2.2.2.2.2.2.2.2.2.2.2.2.2.1, .inr (0, [.int 0, .int 0, .int (-1), .ref u.2.2.1, .ref u.2.2.2.2.2.1, .ref u.2.2.2.2.2.2.2.2.1, .ref (u.2.2.2.2.2.2.2.2.2.2.2.2.2.2.2.2.2.2.2.2.2.1 0), .ref (u.2.2.2.2.2.2.2.2.2.2.2.2.2.2.2.2.2.2.2.2.2.1 1), .int 0, .ref (u.2.2.2.2.2.2.2.2.2.2.2.2.2.2.2.2.2.2.2.2.2.1 2)])), ((u.2.2.2.2.2.2.2.2.2.2.2.2.2.2.2.2.2.2.2.2.2.1 0), .inl ((u.2.2.2.2.2.2.2.2.2.2.2.2.2.2.2.2.2.2.2.2.2.2 0), 30, .inl (fun _ => 0))), ((u.2.2.2.2.2.2.2.2.2.2.2.2.2.2.2.2.2.2.2.2.2.1 1), .inl ((u.2.2.2.2.2.2.2.2.2.2.2.2.2.2.2.2.2.2.2.2.2.2 1), 30, .inr (.inl (fun _ => 0)))), ((u.2.2.2.2.2.2.2.2.2.2.2.2.2.2.2.2.2.2.2.2.2.1 2), .inl ((u.2.2.2.2.2.2.2.2.2.2.2.2.2.2.2.2.2.2.2.2.2.2 2), 74, .inr (.inl (fun _ => 0))))]) (fun (u : (Nat → Nat) × (Nat → ClassId) × Nat × (Nat → Nat) × (Nat → ClassId) × Nat × (Nat → Nat) × (Nat → ClassId) × Nat × (Nat → Nat) × (Nat → ClassId) × Nat × (Nat → Nat) × (Nat → ClassId) × Nat × (Nat → Nat) × (Nat → ClassId) × Nat × (Nat → Nat) × (Nat → ClassId) × Nat × (Nat → Nat) × (Nat → ClassId)) => [((u.2.1 0), .int), ((u.2.1 1), .int), ((u.2.1 2), .long), ((u.2.1 3), .short), ((u.2.1 4), .int), ((u.2.2.2.2.1 0), .int), ((u.2.2.2.2.1 1), .long), ((u.2.2.2.2.1 2), .int), ((u.2.2.2.2.1 3), .long), ((u.2.2.2.2.2.2.2.1 0), .int), ((u.2.2.2.2.2.2.2.1 1), .int), ((u.2.2.2.2.2.2.2.1 2), .int), ((u.2.2.2.2.2.2.2.1 3), .int), ((u.2.2.2.2.2.2.2.1 4), .int), ((u.2.2.2.2.2.2.2.1 5), .int), ((u.2.2.2.2.2.2.2.1 6), .int), ((u.2.2.2.2.2.2.2.2.2.2.1 0), .boolean), ((u.2.2.2.2.2.2.2.2.2.2.1 1), .int), ((u.2.2.2.2.2.2.2.2.2.2.1 2), .int), ((u.2.2.2.2.2.2.2.2.2.2.1 3), .int), ((u.2.2.2.2.2.2.2.2.2.2.2.2.2.1 0), .int), ((u.2.2.2.2.2.2.2.2.2.2.2.2.2.1 1), .int), ((u.2.2.2.2.2.2.2.2.2.2.2.2.2.1 2), .int), ((u.2.2.2.2.2.2.2.2.2.2.2.2.2.1 3), .int), ((u.2.2.2.2.2.2.2.2.2.2.2.2.2.1 4), .int), ((u.2.2.2.2.2.2.2.2.2.2.2.2.2.1 5), .int), ((u.2.2.2.2.2.2.2.2.2.2.2.2.2.1 6), .byte), ((u.2.2.2.2.2.2.2.2.2.2.2.2.2.2.2.2.1 0), .int), ((u.2.2.2.2.2.2.2.2.2.2.2.2.2.2.2.2.1 1), .int), ((u.2.2.2.2.2.2.2.2.2.2.2.2.2.2.2.2.1 2), .int), ((u.2.2.2.2.2.2.2.2.2.2.2.2.2.2.2.2.1 3), .int), ((u.2.2.2.2.2.2.2.2.2.2.2.2.2.2.2.2.1 4), .int), ((u.2.2.2.2.2.2.2.2.2.2.2.2.2.2.2.2.2.2.2.1 0), .int), ((u.2.2.2.2.2.2.2.2.2.2.2.2.2.2.2.2.2.2.2.1 1), .int), ((u.2.2.2.2.2.2.2.2.2.2.2.2.2.2.2.2.2.2.2.1 2), .int), ((u.2.2.2.2.2.2.2.2.2.2.2.2.2.2.2.2.2.2.2.1 3), .int), ((u.2.2.2.2.2.2.2.2.2.2.2.2.2.2.2.2.2.2.2.1 4), .int), ((u.2.2.2.2.2.2.2.2.2.2.2.2.2.2.2.2.2.2.2.1 5), .int), ((u.2.2.2.2.2.2.2.2.2.2.2.2.2.2.2.2.2.2.2.1 6), .int), ((u.2.2.2.2.2.2.2.2.2.2.2.2.2.2.2.2.2.2.2.2.2.2 0), .int), ((u.2.2.2.2.2.2.2.2.2.2.2.2.2.2.2.2.2.2.2.2.2.2 1), .long), ((u.2.2.2.2.2.2.2.2.2.2.2.2.2.2.2.2.2.2.2.2.2.2 2), .long)])) A) (by decide) rfl (Nat.le_of_ble_eq_true rfl) ?_
  intro p e s m below meth c A ls E hr hlocks hnm hsz hAe hX h hl
  have hx := E.1
  have hb := E.2.1
  have hl : lv_has ls 1 [(0, .ref o7)] := hl
  refine lv_aload_n hx hb dX7_init_0 rfl (lv_at hl 0 rfl) ?_
  refine W.objInit hx hb E.2.2.2.1 (E.2.2.2.2 _ (List.mem_of_getElem? (i := 1) rfl)) (E.2.2.2.2 _ (List.mem_of_getElem? (i := 2) rfl)) (E.2.2.2.2 _ (List.mem_of_getElem? (i := 3) rfl)) rfl (by rw [E.2.2.1]; exact hl.1) rfl dX7_init_1 (Nat.le_of_ble_eq_true rfl) (Nat.le_of_ble_eq_true rfl) ?_
  refine W.eq (g2 := F0 m 4 ls []) rfl ?_
  refine lv_aload_n hx hb dX7_init_4 rfl (lv_at hl 0 rfl) ?_
  refine k_new (ci := 2) (fs := [.null, .null, .null, .null, .int 0]) (k := 1) (n := 5) E h (fun w h => List.mem_cons_of_mem _ (List.mem_append_left _ (List.mem_append_left _ (List.mem_append_left _ (List.mem_append_left _ (List.mem_append_left _ (List.mem_append_left _ (List.mem_append_left _ (List.mem_append_right _ h))))))))) tyX2_ok (List.mem_of_getElem? (i := 4) rfl) (List.mem_of_getElem? (i := 5) rfl) (List.mem_of_getElem? (i := 6) rfl) rfl (fun j hj => by rcases (show j = 0 ∨ j = 1 ∨ j = 2 ∨ j = 3 ∨ j = 4 by omega) with rfl | rfl | rfl | rfl | rfl <;> rfl) (Nat.le_of_ble_eq_true rfl) (Nat.le_of_ble_eq_true rfl) dX7_init_5 (Nat.le_of_ble_eq_true rfl) (Nat.le_of_ble_eq_true rfl) (fun q_1 H h => ?_)
  have h : KS (dC, dI) A [(o7, .inr (7, [.null, .null, .null, .null, .null, .null, .null, .null, .int 0, .int 0, .int 0, .null, .int 0, .null, .int 0, .null])), (q_1, .inr (2, [.null, .null, .null, .null, .int 0]))] [] s H _ := h
  refine lv_dup hx hb dX7_init_8 rfl ?_
  refine kc_vK (k := 5) (n := 147) (wc := [(q_1, .inr (2, [.null, .null, .null, .null, .int 0]))]) (wr := [(o7, .inr (7, [.null, .null, .null, .null, .null, .null, .null, .null, .int 0, .int 0, .int 0, .null, .int 0, .null, .int 0, .null]))]) h (va_runI (As := []) (rest := [.ref q_1, .ref o7]) E (c_X2_init l dC dI _ (o2 := q_1)  ) (cwI 0 E.2.2.2.2 gX7_init_X2_init rfl rfl rfl (E.2.2.2.2 _ (List.mem_of_getElem? (i := 6) rfl)) (E.2.2.2.2 _ (List.mem_of_getElem? (i := 37) rfl)) (E.2.2.2.2 _ (List.mem_of_getElem? (i := 38) rfl)) rfl (by decide +kernel) ⟨Nat.le_of_ble_eq_true rfl, Nat.le_of_ble_eq_true rfl⟩) (kPreS h KX_true (fun _ _ _ => trivial) [1] [] (by decide) rfl rfl) rfl rfl hl.1 rfl (lv_room (Nat.le_of_ble_eq_true rfl)) dX7_init_9 ⟨Nat.le_of_ble_eq_true rfl, Nat.le_of_ble_eq_true rfl⟩) [1] [0] rfl rfl (by decide) (by decide) (Nat.le_of_ble_eq_true rfl) (Nat.le_of_ble_eq_true rfl) (fun u_2 H locs hw_2 h => ?_)
  obtain ⟨z_3, z_4⟩ := u_2
  have h : KS (dC, dI) A [(o7, .inr (7, [.null, .null, .null, .null, .null, .null, .null, .null, .int 0, .int 0, .int 0, .null, .int 0, .null, .int 0, .null])), (q_1, .inr (2, [.ref (z_3 0), .ref (z_3 1), .ref (z_3 2), .ref (z_3 3), .int 0])), ((z_3 0), .inl ((z_4 0), 8, .inl (fun _ => 16))), ((z_3 1), .inl ((z_4 1), 74, .inr (.inl (fun _ => 0)))), ((z_3 2), .inl ((z_4 2), 30, .inl (fun _ => 0))), ((z_3 3), .inl ((z_4 3), 30, .inr (.inl (fun _ => 0))))] [((z_4 0), .int), ((z_4 1), .long), ((z_4 2), .int), ((z_4 3), .long)] s H locs := h
  refine W.eq (g2 := F0 m 12 ls [.ref q_1, .ref o7]) rfl ?_
  refine k_putF (v := .ref q_1) (ty := .object "StepStore$Inside") (ws' := [(o7, .inr (7, [.ref q_1, .null, .null, .null, .null, .null, .null, .null, .int 0, .int 0, .int 0, .null, .int 0, .null, .int 0, .null])), (q_1, .inr (2, [.ref (z_3 0), .ref (z_3 1), .ref (z_3 2), .ref (z_3 3), .int 0])), ((z_3 0), .inl ((z_4 0), 8, .inl (fun _ => 16))), ((z_3 1), .inl ((z_4 1), 74, .inr (.inl (fun _ => 0)))), ((z_3 2), .inl ((z_4 2), 30, .inl (fun _ => 0))), ((z_3 3), .inl ((z_4 3), 30, .inr (.inl (fun _ => 0))))]) E h (fun w h => List.mem_cons_of_mem _ (List.mem_append_left _ (List.mem_append_left _ (List.mem_append_left _ (List.mem_append_left _ (List.mem_append_left _ (List.mem_append_left _ (List.mem_append_right _ h)))))))) tyX7_ok nmX7 0 rfl rfl 0 (by decide) (List.mem_of_getElem? (i := 7) rfl) rfl hnm rfl (by decide +kernel) rfl rfl (Nat.le_of_ble_eq_true rfl) rfl dX7_init_12 (fun H locs h => ?_)
  refine lv_aload_n hx hb dX7_init_15 rfl (lv_at hl 0 rfl) ?_
  refine k_new (ci := 5) (fs := [.null, .null, .null, .null, .null, .null, .null]) (k := 6) (n := 154) E h (fun w h => List.mem_cons_of_mem _ (List.mem_append_left _ (List.mem_append_left _ (List.mem_append_left _ (List.mem_append_left _ (List.mem_append_left _ (List.mem_append_right _ h))))))) tyX5_ok (List.mem_of_getElem? (i := 8) rfl) (List.mem_of_getElem? (i := 9) rfl) (List.mem_of_getElem? (i := 10) rfl) rfl (fun j hj => by rcases (show j = 0 ∨ j = 1 ∨ j = 2 ∨ j = 3 ∨ j = 4 ∨ j = 5 ∨ j = 6 by omega) with rfl | rfl | rfl | rfl | rfl | rfl | rfl <;> rfl) (Nat.le_of_ble_eq_true rfl) (Nat.le_of_ble_eq_true rfl) dX7_init_16 (Nat.le_of_ble_eq_true rfl) (Nat.le_of_ble_eq_true rfl) (fun q_5 H h => ?_)
  have h : KS (dC, dI) A [(o7, .inr (7, [.ref q_1, .null, .null, .null, .null, .null, .null, .null, .int 0, .int 0, .int 0, .null, .int 0, .null, .int 0, .null])), (q_1, .inr (2, [.ref (z_3 0), .ref (z_3 1), .ref (z_3 2), .ref (z_3 3), .int 0])), ((z_3 0), .inl ((z_4 0), 8, .inl (fun _ => 16))), ((z_3 1), .inl ((z_4 1), 74, .inr (.inl (fun _ => 0)))), ((z_3 2), .inl ((z_4 2), 30, .inl (fun _ => 0))), ((z_3 3), .inl ((z_4 3), 30, .inr (.inl (fun _ => 0)))), (q_5, .inr (5, [.null, .null, .null, .null, .null, .null, .null]))] [((z_4 0), .int), ((z_4 1), .long), ((z_4 2), .int), ((z_4 3), .long)] s H _ := h
  refine lv_dup hx hb dX7_init_19 rfl ?_
  refine kc_vK (k := 13) (n := 886) (wc := [(q_5, .inr (5, [.null, .null, .null, .null, .null, .null, .null]))]) (wr := [(o7, .inr (7, [.ref q_1, .null, .null, .null, .null, .null, .null, .null, .int 0, .int 0, .int 0, .null, .int 0, .null, .int 0, .null])), (q_1, .inr (2, [.ref (z_3 0), .ref (z_3 1), .ref (z_3 2), .ref (z_3 3), .int 0])), ((z_3 0), .inl ((z_4 0), 8, .inl (fun _ => 16))), ((z_3 1), .inl ((z_4 1), 74, .inr (.inl (fun _ => 0)))), ((z_3 2), .inl ((z_4 2), 30, .inl (fun _ => 0))), ((z_3 3), .inl ((z_4 3), 30, .inr (.inl (fun _ => 0))))]) h (va_runIN (As := []) (rest := [.ref q_5, .ref o7]) E (c_X5_init l dC dI _ (o5 := q_5)  ) ⟨va_cnB 0 E.2.2.2.2 gX7_init_X5_init_n18 rfl rfl rfl hX (E.2.2.2.2 _ (List.mem_of_getElem? (i := 10) rfl)) (by decide +kernel) ⟨Nat.le_of_ble_eq_true rfl, Nat.le_of_ble_eq_true rfl⟩, rfl, E.2.2.2.2 _ (List.mem_of_getElem? (i := 49) rfl)⟩ (kPreS h KX_true (fun _ _ _ => trivial) [6] [] (by decide) rfl rfl) rfl rfl hl.1 rfl (lv_room (Nat.le_of_ble_eq_true rfl)) dX7_init_20 ⟨Nat.le_of_ble_eq_true rfl, Nat.le_of_ble_eq_true rfl⟩) [6] [0, 1, 2, 3, 4, 5] rfl rfl (by decide) (by decide) (Nat.le_of_ble_eq_true rfl) (Nat.le_of_ble_eq_true rfl) (fun u_6 H locs hw_6 h => ?_)
  obtain ⟨z_7, z_8⟩ := u_6
  have h : KS (dC, dI) A [(o7, .inr (7, [.ref q_1, .null, .null, .null, .null, .null, .null, .null, .int 0, .int 0, .int 0, .null, .int 0, .null, .int 0, .null])), (q_1, .inr (2, [.ref (z_3 0), .ref (z_3 1), .ref (z_3 2), .ref (z_3 3), .int 0])), ((z_3 0), .inl ((z_4 0), 8, .inl (fun _ => 16))), ((z_3 1), .inl ((z_4 1), 74, .inr (.inl (fun _ => 0)))), ((z_3 2), .inl ((z_4 2), 30, .inl (fun _ => 0))), ((z_3 3), .inl ((z_4 3), 30, .inr (.inl (fun _ => 0)))), (q_5, .inr (5, [.ref (z_7 0), .ref (z_7 1), .ref (z_7 2), .ref (z_7 3), .ref (z_7 4), .ref (z_7 5), .ref (z_7 6)])), ((z_7 0), .inl ((z_8 0), 12, .inl (fun _ => 0))), ((z_7 1), .inl ((z_8 1), 120, .inl (fun _ => 0))), ((z_7 2), .inl ((z_8 2), 120, .inl (fun _ => 0))), ((z_7 3), .inl ((z_8 3), 120, .inl (fun _ => 0))), ((z_7 4), .inl ((z_8 4), 120, .inl (fun _ => 0))), ((z_7 5), .inl ((z_8 5), 120, .inl (fun _ => 0))), ((z_7 6), .inl ((z_8 6), 120, .inl (fun _ => 0)))] [((z_4 0), .int), ((z_4 1), .long), ((z_4 2), .int), ((z_4 3), .long), ((z_8 0), .int), ((z_8 1), .int), ((z_8 2), .int), ((z_8 3), .int), ((z_8 4), .int), ((z_8 5), .int), ((z_8 6), .int)] s H locs := h
  refine W.eq (g2 := F0 m 23 ls [.ref q_5, .ref o7]) rfl ?_
  refine k_putF (v := .ref q_5) (ty := .object "StepStore$Rows") (ws' := [(o7, .inr (7, [.ref q_1, .ref q_5, .null, .null, .null, .null, .null, .null, .int 0, .int 0, .int 0, .null, .int 0, .null, .int 0, .null])), (q_1, .inr (2, [.ref (z_3 0), .ref (z_3 1), .ref (z_3 2), .ref (z_3 3), .int 0])), ((z_3 0), .inl ((z_4 0), 8, .inl (fun _ => 16))), ((z_3 1), .inl ((z_4 1), 74, .inr (.inl (fun _ => 0)))), ((z_3 2), .inl ((z_4 2), 30, .inl (fun _ => 0))), ((z_3 3), .inl ((z_4 3), 30, .inr (.inl (fun _ => 0)))), (q_5, .inr (5, [.ref (z_7 0), .ref (z_7 1), .ref (z_7 2), .ref (z_7 3), .ref (z_7 4), .ref (z_7 5), .ref (z_7 6)])), ((z_7 0), .inl ((z_8 0), 12, .inl (fun _ => 0))), ((z_7 1), .inl ((z_8 1), 120, .inl (fun _ => 0))), ((z_7 2), .inl ((z_8 2), 120, .inl (fun _ => 0))), ((z_7 3), .inl ((z_8 3), 120, .inl (fun _ => 0))), ((z_7 4), .inl ((z_8 4), 120, .inl (fun _ => 0))), ((z_7 5), .inl ((z_8 5), 120, .inl (fun _ => 0))), ((z_7 6), .inl ((z_8 6), 120, .inl (fun _ => 0)))]) E h (fun w h => List.mem_cons_of_mem _ (List.mem_append_left _ (List.mem_append_left _ (List.mem_append_left _ (List.mem_append_left _ (List.mem_append_left _ (List.mem_append_left _ (List.mem_append_right _ h)))))))) tyX7_ok nmX7 0 rfl rfl 1 (by decide) (List.mem_of_getElem? (i := 11) rfl) rfl hnm rfl (by decide +kernel) rfl rfl (Nat.le_of_ble_eq_true rfl) rfl dX7_init_23 (fun H locs h => ?_)
  refine lv_aload_n hx hb dX7_init_26 rfl (lv_at hl 0 rfl) ?_
  refine k_new (ci := 3) (fs := [.null, .null, .null, .null, .int 0, .null, .null]) (k := 14) (n := 893) E h (fun w h => List.mem_cons_of_mem _ (List.mem_append_left _ (List.mem_append_left _ (List.mem_append_left _ (List.mem_append_left _ (List.mem_append_right _ h)))))) tyX3_ok (List.mem_of_getElem? (i := 12) rfl) (List.mem_of_getElem? (i := 13) rfl) (List.mem_of_getElem? (i := 14) rfl) rfl (fun j hj => by rcases (show j = 0 ∨ j = 1 ∨ j = 2 ∨ j = 3 ∨ j = 4 ∨ j = 5 ∨ j = 6 by omega) with rfl | rfl | rfl | rfl | rfl | rfl | rfl <;> rfl) (Nat.le_of_ble_eq_true rfl) (Nat.le_of_ble_eq_true rfl) dX7_init_27 (Nat.le_of_ble_eq_true rfl) (Nat.le_of_ble_eq_true rfl) (fun q_9 H h => ?_)
  have h : KS (dC, dI) A [(o7, .inr (7, [.ref q_1, .ref q_5, .null, .null, .null, .null, .null, .null, .int 0, .int 0, .int 0, .null, .int 0, .null, .int 0, .null])), (q_1, .inr (2, [.ref (z_3 0), .ref (z_3 1), .ref (z_3 2), .ref (z_3 3), .int 0])), ((z_3 0), .inl ((z_4 0), 8, .inl (fun _ => 16))), ((z_3 1), .inl ((z_4 1), 74, .inr (.inl (fun _ => 0)))), ((z_3 2), .inl ((z_4 2), 30, .inl (fun _ => 0))), ((z_3 3), .inl ((z_4 3), 30, .inr (.inl (fun _ => 0)))), (q_5, .inr (5, [.ref (z_7 0), .ref (z_7 1), .ref (z_7 2), .ref (z_7 3), .ref (z_7 4), .ref (z_7 5), .ref (z_7 6)])), ((z_7 0), .inl ((z_8 0), 12, .inl (fun _ => 0))), ((z_7 1), .inl ((z_8 1), 120, .inl (fun _ => 0))), ((z_7 2), .inl ((z_8 2), 120, .inl (fun _ => 0))), ((z_7 3), .inl ((z_8 3), 120, .inl (fun _ => 0))), ((z_7 4), .inl ((z_8 4), 120, .inl (fun _ => 0))), ((z_7 5), .inl ((z_8 5), 120, .inl (fun _ => 0))), ((z_7 6), .inl ((z_8 6), 120, .inl (fun _ => 0))), (q_9, .inr (3, [.null, .null, .null, .null, .int 0, .null, .null]))] [((z_4 0), .int), ((z_4 1), .long), ((z_4 2), .int), ((z_4 3), .long), ((z_8 0), .int), ((z_8 1), .int), ((z_8 2), .int), ((z_8 3), .int), ((z_8 4), .int), ((z_8 5), .int), ((z_8 6), .int)] s H _ := h
  refine lv_dup hx hb dX7_init_30 rfl ?_
  refine lv_aload_n hx hb dX7_init_31 rfl (lv_at hl 0 rfl) ?_
  refine k_get (v := .ref q_5) E h (fun w h => List.mem_cons_of_mem _ (List.mem_append_left _ (List.mem_append_left _ (List.mem_append_left _ (List.mem_append_left _ (List.mem_append_left _ (List.mem_append_left _ (List.mem_append_right _ h)))))))) 0 rfl rfl 1 (by decide) (List.mem_of_getElem? (i := 11) rfl) rfl dX7_init_32 ?_
  refine kc_vK (k := 26) (n := 2241) (wc := [(q_9, .inr (3, [.null, .null, .null, .null, .int 0, .null, .null]))]) (wr := [(o7, .inr (7, [.ref q_1, .ref q_5, .null, .null, .null, .null, .null, .null, .int 0, .int 0, .int 0, .null, .int 0, .null, .int 0, .null])), (q_1, .inr (2, [.ref (z_3 0), .ref (z_3 1), .ref (z_3 2), .ref (z_3 3), .int 0])), ((z_3 0), .inl ((z_4 0), 8, .inl (fun _ => 16))), ((z_3 1), .inl ((z_4 1), 74, .inr (.inl (fun _ => 0)))), ((z_3 2), .inl ((z_4 2), 30, .inl (fun _ => 0))), ((z_3 3), .inl ((z_4 3), 30, .inr (.inl (fun _ => 0)))), (q_5, .inr (5, [.ref (z_7 0), .ref (z_7 1), .ref (z_7 2), .ref (z_7 3), .ref (z_7 4), .ref (z_7 5), .ref (z_7 6)])), ((z_7 0), .inl ((z_8 0), 12, .inl (fun _ => 0))), ((z_7 1), .inl ((z_8 1), 120, .inl (fun _ => 0))), ((z_7 2), .inl ((z_8 2), 120, .inl (fun _ => 0))), ((z_7 3), .inl ((z_8 3), 120, .inl (fun _ => 0))), ((z_7 4), .inl ((z_8 4), 120, .inl (fun _ => 0))), ((z_7 5), .inl ((z_8 5), 120, .inl (fun _ => 0))), ((z_7 6), .inl ((z_8 6), 120, .inl (fun _ => 0)))]) h (va_runI (As := [.ref q_5]) (rest := [.ref q_9, .ref o7]) E (c_X3_init l dC dI _ (o3 := q_9) (o5 := q_5)  ) (cwI 1 E.2.2.2.2 gX7_init_X3_init rfl rfl rfl (E.2.2.2.2 _ (List.mem_of_getElem? (i := 14) rfl)) (E.2.2.2.2 _ (List.mem_of_getElem? (i := 59) rfl)) (E.2.2.2.2 _ (List.mem_of_getElem? (i := 60) rfl)) rfl (by decide +kernel) ⟨Nat.le_of_ble_eq_true rfl, Nat.le_of_ble_eq_true rfl⟩) (kPreS h KX_true (fun _ _ _ => trivial) [14] [] (by decide) rfl rfl) rfl rfl hl.1 rfl (lv_room (Nat.le_of_ble_eq_true rfl)) dX7_init_35 ⟨Nat.le_of_ble_eq_true rfl, Nat.le_of_ble_eq_true rfl⟩) [14] [0, 1, 2, 3, 4, 5, 6, 7, 8, 9, 10, 11, 12, 13] rfl rfl (by decide) (by decide) (Nat.le_of_ble_eq_true rfl) (Nat.le_of_ble_eq_true rfl) (fun u_10 H locs hw_10 h => ?_)
  obtain ⟨z_11, z_12, z_13, z_14, z_15⟩ := u_10
  have h : KS (dC, dI) A [(o7, .inr (7, [.ref q_1, .ref q_5, .null, .null, .null, .null, .null, .null, .int 0, .int 0, .int 0, .null, .int 0, .null, .int 0, .null])), (q_1, .inr (2, [.ref (z_3 0), .ref (z_3 1), .ref (z_3 2), .ref (z_3 3), .int 0])), ((z_3 0), .inl ((z_4 0), 8, .inl (fun _ => 16))), ((z_3 1), .inl ((z_4 1), 74, .inr (.inl (fun _ => 0)))), ((z_3 2), .inl ((z_4 2), 30, .inl (fun _ => 0))), ((z_3 3), .inl ((z_4 3), 30, .inr (.inl (fun _ => 0)))), (q_5, .inr (5, [.ref (z_7 0), .ref (z_7 1), .ref (z_7 2), .ref (z_7 3), .ref (z_7 4), .ref (z_7 5), .ref (z_7 6)])), ((z_7 0), .inl ((z_8 0), 12, .inl (fun _ => 0))), ((z_7 1), .inl ((z_8 1), 120, .inl (fun _ => 0))), ((z_7 2), .inl ((z_8 2), 120, .inl (fun _ => 0))), ((z_7 3), .inl ((z_8 3), 120, .inl (fun _ => 0))), ((z_7 4), .inl ((z_8 4), 120, .inl (fun _ => 0))), ((z_7 5), .inl ((z_8 5), 120, .inl (fun _ => 0))), ((z_7 6), .inl ((z_8 6), 120, .inl (fun _ => 0))), (q_9, .inr (3, [.ref (z_11 0), .ref (z_11 1), .ref (z_11 2), .ref (z_11 3), .int 1, .ref q_5, .ref z_13])), ((z_11 0), .inl ((z_12 0), 12, .inl (fun _ => 0))), ((z_11 1), .inl ((z_12 1), 12, .inl (fun _ => 0))), ((z_11 2), .inl ((z_12 2), 120, .inl (fun _ => 0))), ((z_11 3), .inl ((z_12 3), 120, .inl (fun _ => 0))), (z_13, .inr (6, [.ref (z_14 0), .ref q_5, .ref (z_14 1), .ref (z_14 2), .ref (z_14 3), .ref (z_14 4), .ref (z_14 5), .ref (z_14 6), .int 0, .int 0])), ((z_14 0), .inl ((z_15 0), 10, .inl (fun _ => 0))), ((z_14 1), .inl ((z_15 1), 10, .inl (fun _ => 0))), ((z_14 2), .inl ((z_15 2), 10, .inl (fun _ => 0))), ((z_14 3), .inl ((z_15 3), 10, .inl (fun _ => 0))), ((z_14 4), .inl ((z_15 4), 5, .inl (fun _ => 0))), ((z_14 5), .inl ((z_15 5), 5, .inl (fun _ => 0))), ((z_14 6), .inl ((z_15 6), 1024, .inl (fun _ => 0)))] [((z_4 0), .int), ((z_4 1), .long), ((z_4 2), .int), ((z_4 3), .long), ((z_8 0), .int), ((z_8 1), .int), ((z_8 2), .int), ((z_8 3), .int), ((z_8 4), .int), ((z_8 5), .int), ((z_8 6), .int), ((z_12 0), .boolean), ((z_12 1), .int), ((z_12 2), .int), ((z_12 3), .int), ((z_15 0), .int), ((z_15 1), .int), ((z_15 2), .int), ((z_15 3), .int), ((z_15 4), .int), ((z_15 5), .int), ((z_15 6), .byte)] s H locs := h
  refine W.eq (g2 := F0 m 38 ls [.ref q_9, .ref o7]) rfl ?_
  refine k_putF (v := .ref q_9) (ty := .object "StepStore$Packing") (ws' := [(o7, .inr (7, [.ref q_1, .ref q_5, .ref q_9, .null, .null, .null, .null, .null, .int 0, .int 0, .int 0, .null, .int 0, .null, .int 0, .null])), (q_1, .inr (2, [.ref (z_3 0), .ref (z_3 1), .ref (z_3 2), .ref (z_3 3), .int 0])), ((z_3 0), .inl ((z_4 0), 8, .inl (fun _ => 16))), ((z_3 1), .inl ((z_4 1), 74, .inr (.inl (fun _ => 0)))), ((z_3 2), .inl ((z_4 2), 30, .inl (fun _ => 0))), ((z_3 3), .inl ((z_4 3), 30, .inr (.inl (fun _ => 0)))), (q_5, .inr (5, [.ref (z_7 0), .ref (z_7 1), .ref (z_7 2), .ref (z_7 3), .ref (z_7 4), .ref (z_7 5), .ref (z_7 6)])), ((z_7 0), .inl ((z_8 0), 12, .inl (fun _ => 0))), ((z_7 1), .inl ((z_8 1), 120, .inl (fun _ => 0))), ((z_7 2), .inl ((z_8 2), 120, .inl (fun _ => 0))), ((z_7 3), .inl ((z_8 3), 120, .inl (fun _ => 0))), ((z_7 4), .inl ((z_8 4), 120, .inl (fun _ => 0))), ((z_7 5), .inl ((z_8 5), 120, .inl (fun _ => 0))), ((z_7 6), .inl ((z_8 6), 120, .inl (fun _ => 0))), (q_9, .inr (3, [.ref (z_11 0), .ref (z_11 1), .ref (z_11 2), .ref (z_11 3), .int 1, .ref q_5, .ref z_13])), ((z_11 0), .inl ((z_12 0), 12, .inl (fun _ => 0))), ((z_11 1), .inl ((z_12 1), 12, .inl (fun _ => 0))), ((z_11 2), .inl ((z_12 2), 120, .inl (fun _ => 0))), ((z_11 3), .inl ((z_12 3), 120, .inl (fun _ => 0))), (z_13, .inr (6, [.ref (z_14 0), .ref q_5, .ref (z_14 1), .ref (z_14 2), .ref (z_14 3), .ref (z_14 4), .ref (z_14 5), .ref (z_14 6), .int 0, .int 0])), ((z_14 0), .inl ((z_15 0), 10, .inl (fun _ => 0))), ((z_14 1), .inl ((z_15 1), 10, .inl (fun _ => 0))), ((z_14 2), .inl ((z_15 2), 10, .inl (fun _ => 0))), ((z_14 3), .inl ((z_15 3), 10, .inl (fun _ => 0))), ((z_14 4), .inl ((z_15 4), 5, .inl (fun _ => 0))), ((z_14 5), .inl ((z_15 5), 5, .inl (fun _ => 0))), ((z_14 6), .inl ((z_15 6), 1024, .inl (fun _ => 0)))]) E h (fun w h => List.mem_cons_of_mem _ (List.mem_append_left _ (List.mem_append_left _ (List.mem_append_left _ (List.mem_append_left _ (List.mem_append_left _ (List.mem_append_left _ (List.mem_append_right _ h)))))))) tyX7_ok nmX7 0 rfl rfl 2 (by decide) (List.mem_of_getElem? (i := 15) rfl) rfl hnm rfl (by decide +kernel) rfl rfl (Nat.le_of_ble_eq_true rfl) rfl dX7_init_38 (fun H locs h => ?_)
  refine lv_aload_n hx hb dX7_init_41 rfl (lv_at hl 0 rfl) ?_
  refine k_new (ci := 4) (fs := [.int 0, .int 0, .null, .null, .null, .null, .null, .null, .null]) (k := 27) (n := 2250) E h (fun w h => List.mem_cons_of_mem _ (List.mem_append_left _ (List.mem_append_left _ (List.mem_append_left _ (List.mem_append_right _ h))))) tyX4_ok (List.mem_of_getElem? (i := 16) rfl) (List.mem_of_getElem? (i := 17) rfl) (List.mem_of_getElem? (i := 18) rfl) rfl (fun j hj => by rcases (show j = 0 ∨ j = 1 ∨ j = 2 ∨ j = 3 ∨ j = 4 ∨ j = 5 ∨ j = 6 ∨ j = 7 ∨ j = 8 by omega) with rfl | rfl | rfl | rfl | rfl | rfl | rfl | rfl | rfl <;> rfl) (Nat.le_of_ble_eq_true rfl) (Nat.le_of_ble_eq_true rfl) dX7_init_42 (Nat.le_of_ble_eq_true rfl) (Nat.le_of_ble_eq_true rfl) (fun q_16 H h => ?_)
  have h : KS (dC, dI) A [(o7, .inr (7, [.ref q_1, .ref q_5, .ref q_9, .null, .null, .null, .null, .null, .int 0, .int 0, .int 0, .null, .int 0, .null, .int 0, .null])), (q_1, .inr (2, [.ref (z_3 0), .ref (z_3 1), .ref (z_3 2), .ref (z_3 3), .int 0])), ((z_3 0), .inl ((z_4 0), 8, .inl (fun _ => 16))), ((z_3 1), .inl ((z_4 1), 74, .inr (.inl (fun _ => 0)))), ((z_3 2), .inl ((z_4 2), 30, .inl (fun _ => 0))), ((z_3 3), .inl ((z_4 3), 30, .inr (.inl (fun _ => 0)))), (q_5, .inr (5, [.ref (z_7 0), .ref (z_7 1), .ref (z_7 2), .ref (z_7 3), .ref (z_7 4), .ref (z_7 5), .ref (z_7 6)])), ((z_7 0), .inl ((z_8 0), 12, .inl (fun _ => 0))), ((z_7 1), .inl ((z_8 1), 120, .inl (fun _ => 0))), ((z_7 2), .inl ((z_8 2), 120, .inl (fun _ => 0))), ((z_7 3), .inl ((z_8 3), 120, .inl (fun _ => 0))), ((z_7 4), .inl ((z_8 4), 120, .inl (fun _ => 0))), ((z_7 5), .inl ((z_8 5), 120, .inl (fun _ => 0))), ((z_7 6), .inl ((z_8 6), 120, .inl (fun _ => 0))), (q_9, .inr (3, [.ref (z_11 0), .ref (z_11 1), .ref (z_11 2), .ref (z_11 3), .int 1, .ref q_5, .ref z_13])), ((z_11 0), .inl ((z_12 0), 12, .inl (fun _ => 0))), ((z_11 1), .inl ((z_12 1), 12, .inl (fun _ => 0))), ((z_11 2), .inl ((z_12 2), 120, .inl (fun _ => 0))), ((z_11 3), .inl ((z_12 3), 120, .inl (fun _ => 0))), (z_13, .inr (6, [.ref (z_14 0), .ref q_5, .ref (z_14 1), .ref (z_14 2), .ref (z_14 3), .ref (z_14 4), .ref (z_14 5), .ref (z_14 6), .int 0, .int 0])), ((z_14 0), .inl ((z_15 0), 10, .inl (fun _ => 0))), ((z_14 1), .inl ((z_15 1), 10, .inl (fun _ => 0))), ((z_14 2), .inl ((z_15 2), 10, .inl (fun _ => 0))), ((z_14 3), .inl ((z_15 3), 10, .inl (fun _ => 0))), ((z_14 4), .inl ((z_15 4), 5, .inl (fun _ => 0))), ((z_14 5), .inl ((z_15 5), 5, .inl (fun _ => 0))), ((z_14 6), .inl ((z_15 6), 1024, .inl (fun _ => 0))), (q_16, .inr (4, [.int 0, .int 0, .null, .null, .null, .null, .null, .null, .null]))] [((z_4 0), .int), ((z_4 1), .long), ((z_4 2), .int), ((z_4 3), .long), ((z_8 0), .int), ((z_8 1), .int), ((z_8 2), .int), ((z_8 3), .int), ((z_8 4), .int), ((z_8 5), .int), ((z_8 6), .int), ((z_12 0), .boolean), ((z_12 1), .int), ((z_12 2), .int), ((z_12 3), .int), ((z_15 0), .int), ((z_15 1), .int), ((z_15 2), .int), ((z_15 3), .int), ((z_15 4), .int), ((z_15 5), .int), ((z_15 6), .byte)] s H _ := h
  refine lv_dup hx hb dX7_init_45 rfl ?_
  refine lv_aload_n hx hb dX7_init_46 rfl (lv_at hl 0 rfl) ?_
  refine k_get (v := .ref q_5) E h (fun w h => List.mem_cons_of_mem _ (List.mem_append_left _ (List.mem_append_left _ (List.mem_append_left _ (List.mem_append_left _ (List.mem_append_left _ (List.mem_append_left _ (List.mem_append_right _ h)))))))) 0 rfl rfl 1 (by decide) (List.mem_of_getElem? (i := 11) rfl) rfl dX7_init_47 ?_
  refine lv_aload_n hx hb dX7_init_50 rfl (lv_at hl 0 rfl) ?_
  refine k_get (v := .ref q_9) E h (fun w h => List.mem_cons_of_mem _ (List.mem_append_left _ (List.mem_append_left _ (List.mem_append_left _ (List.mem_append_left _ (List.mem_append_left _ (List.mem_append_left _ (List.mem_append_right _ h)))))))) 0 rfl rfl 2 (by decide) (List.mem_of_getElem? (i := 15) rfl) rfl dX7_init_51 ?_
  refine kc_vK (k := 32) (n := 2850) (wc := [(q_16, .inr (4, [.int 0, .int 0, .null, .null, .null, .null, .null, .null, .null]))]) (wr := [(o7, .inr (7, [.ref q_1, .ref q_5, .ref q_9, .null, .null, .null, .null, .null, .int 0, .int 0, .int 0, .null, .int 0, .null, .int 0, .null])), (q_1, .inr (2, [.ref (z_3 0), .ref (z_3 1), .ref (z_3 2), .ref (z_3 3), .int 0])), ((z_3 0), .inl ((z_4 0), 8, .inl (fun _ => 16))), ((z_3 1), .inl ((z_4 1), 74, .inr (.inl (fun _ => 0)))), ((z_3 2), .inl ((z_4 2), 30, .inl (fun _ => 0))), ((z_3 3), .inl ((z_4 3), 30, .inr (.inl (fun _ => 0)))), (q_5, .inr (5, [.ref (z_7 0), .ref (z_7 1), .ref (z_7 2), .ref (z_7 3), .ref (z_7 4), .ref (z_7 5), .ref (z_7 6)])), ((z_7 0), .inl ((z_8 0), 12, .inl (fun _ => 0))), ((z_7 1), .inl ((z_8 1), 120, .inl (fun _ => 0))), ((z_7 2), .inl ((z_8 2), 120, .inl (fun _ => 0))), ((z_7 3), .inl ((z_8 3), 120, .inl (fun _ => 0))), ((z_7 4), .inl ((z_8 4), 120, .inl (fun _ => 0))), ((z_7 5), .inl ((z_8 5), 120, .inl (fun _ => 0))), ((z_7 6), .inl ((z_8 6), 120, .inl (fun _ => 0))), (q_9, .inr (3, [.ref (z_11 0), .ref (z_11 1), .ref (z_11 2), .ref (z_11 3), .int 1, .ref q_5, .ref z_13])), ((z_11 0), .inl ((z_12 0), 12, .inl (fun _ => 0))), ((z_11 1), .inl ((z_12 1), 12, .inl (fun _ => 0))), ((z_11 2), .inl ((z_12 2), 120, .inl (fun _ => 0))), ((z_11 3), .inl ((z_12 3), 120, .inl (fun _ => 0))), (z_13, .inr (6, [.ref (z_14 0), .ref q_5, .ref (z_14 1), .ref (z_14 2), .ref (z_14 3), .ref (z_14 4), .ref (z_14 5), .ref (z_14 6), .int 0, .int 0])), ((z_14 0), .inl ((z_15 0), 10, .inl (fun _ => 0))), ((z_14 1), .inl ((z_15 1), 10, .inl (fun _ => 0))), ((z_14 2), .inl ((z_15 2), 10, .inl (fun _ => 0))), ((z_14 3), .inl ((z_15 3), 10, .inl (fun _ => 0))), ((z_14 4), .inl ((z_15 4), 5, .inl (fun _ => 0))), ((z_14 5), .inl ((z_15 5), 5, .inl (fun _ => 0))), ((z_14 6), .inl ((z_15 6), 1024, .inl (fun _ => 0)))]) h (va_runI (As := [.ref q_5, .ref q_9]) (rest := [.ref q_16, .ref o7]) E (c_X4_init l dC dI _ (o4 := q_16) (o5 := q_5) (o3 := q_9)  ) (cwI 2 E.2.2.2.2 gX7_init_X4_init rfl rfl rfl (E.2.2.2.2 _ (List.mem_of_getElem? (i := 18) rfl)) (E.2.2.2.2 _ (List.mem_of_getElem? (i := 87) rfl)) (E.2.2.2.2 _ (List.mem_of_getElem? (i := 88) rfl)) rfl (by decide +kernel) ⟨Nat.le_of_ble_eq_true rfl, Nat.le_of_ble_eq_true rfl⟩) (kPreS h KX_true (fun _ _ _ => trivial) [27] [] (by decide) rfl rfl) rfl rfl hl.1 rfl (lv_room (Nat.le_of_ble_eq_true rfl)) dX7_init_54 ⟨Nat.le_of_ble_eq_true rfl, Nat.le_of_ble_eq_true rfl⟩) [27] [0, 1, 2, 3, 4, 5, 6, 7, 8, 9, 10, 11, 12, 13, 14, 15, 16, 17, 18, 19, 20, 21, 22, 23, 24, 25, 26] rfl rfl (by decide) (by decide) (Nat.le_of_ble_eq_true rfl) (Nat.le_of_ble_eq_true rfl) (fun u_17 H locs hw_17 h => ?_)
  obtain ⟨z_18, z_19⟩ := u_17
  have h : KS (dC, dI) A [(o7, .inr (7, [.ref q_1, .ref q_5, .ref q_9, .null, .null, .null, .null, .null, .int 0, .int 0, .int 0, .null, .int 0, .null, .int 0, .null])), (q_1, .inr (2, [.ref (z_3 0), .ref (z_3 1), .ref (z_3 2), .ref (z_3 3), .int 0])), ((z_3 0), .inl ((z_4 0), 8, .inl (fun _ => 16))), ((z_3 1), .inl ((z_4 1), 74, .inr (.inl (fun _ => 0)))), ((z_3 2), .inl ((z_4 2), 30, .inl (fun _ => 0))), ((z_3 3), .inl ((z_4 3), 30, .inr (.inl (fun _ => 0)))), (q_5, .inr (5, [.ref (z_7 0), .ref (z_7 1), .ref (z_7 2), .ref (z_7 3), .ref (z_7 4), .ref (z_7 5), .ref (z_7 6)])), ((z_7 0), .inl ((z_8 0), 12, .inl (fun _ => 0))), ((z_7 1), .inl ((z_8 1), 120, .inl (fun _ => 0))), ((z_7 2), .inl ((z_8 2), 120, .inl (fun _ => 0))), ((z_7 3), .inl ((z_8 3), 120, .inl (fun _ => 0))), ((z_7 4), .inl ((z_8 4), 120, .inl (fun _ => 0))), ((z_7 5), .inl ((z_8 5), 120, .inl (fun _ => 0))), ((z_7 6), .inl ((z_8 6), 120, .inl (fun _ => 0))), (q_9, .inr (3, [.ref (z_11 0), .ref (z_11 1), .ref (z_11 2), .ref (z_11 3), .int 1, .ref q_5, .ref z_13])), ((z_11 0), .inl ((z_12 0), 12, .inl (fun _ => 0))), ((z_11 1), .inl ((z_12 1), 12, .inl (fun _ => 0))), ((z_11 2), .inl ((z_12 2), 120, .inl (fun _ => 0))), ((z_11 3), .inl ((z_12 3), 120, .inl (fun _ => 0))), (z_13, .inr (6, [.ref (z_14 0), .ref q_5, .ref (z_14 1), .ref (z_14 2), .ref (z_14 3), .ref (z_14 4), .ref (z_14 5), .ref (z_14 6), .int 0, .int 0])), ((z_14 0), .inl ((z_15 0), 10, .inl (fun _ => 0))), ((z_14 1), .inl ((z_15 1), 10, .inl (fun _ => 0))), ((z_14 2), .inl ((z_15 2), 10, .inl (fun _ => 0))), ((z_14 3), .inl ((z_15 3), 10, .inl (fun _ => 0))), ((z_14 4), .inl ((z_15 4), 5, .inl (fun _ => 0))), ((z_14 5), .inl ((z_15 5), 5, .inl (fun _ => 0))), ((z_14 6), .inl ((z_15 6), 1024, .inl (fun _ => 0))), (q_16, .inr (4, [.int 0, .int 0, .ref (z_18 0), .ref (z_18 1), .ref (z_18 2), .ref (z_18 3), .ref (z_18 4), .ref q_5, .ref q_9])), ((z_18 0), .inl ((z_19 0), 120, .inl (fun _ => 0))), ((z_18 1), .inl ((z_19 1), 120, .inl (fun _ => 0))), ((z_18 2), .inl ((z_19 2), 120, .inl (fun _ => 0))), ((z_18 3), .inl ((z_19 3), 120, .inl (fun _ => 0))), ((z_18 4), .inl ((z_19 4), 120, .inl (fun _ => 0)))] [((z_4 0), .int), ((z_4 1), .long), ((z_4 2), .int), ((z_4 3), .long), ((z_8 0), .int), ((z_8 1), .int), ((z_8 2), .int), ((z_8 3), .int), ((z_8 4), .int), ((z_8 5), .int), ((z_8 6), .int), ((z_12 0), .boolean), ((z_12 1), .int), ((z_12 2), .int), ((z_12 3), .int), ((z_15 0), .int), ((z_15 1), .int), ((z_15 2), .int), ((z_15 3), .int), ((z_15 4), .int), ((z_15 5), .int), ((z_15 6), .byte), ((z_19 0), .int), ((z_19 1), .int), ((z_19 2), .int), ((z_19 3), .int), ((z_19 4), .int)] s H locs := h
  refine W.eq (g2 := F0 m 57 ls [.ref q_16, .ref o7]) rfl ?_
  refine k_putF (v := .ref q_16) (ty := .object "StepStore$Places") (ws' := [(o7, .inr (7, [.ref q_1, .ref q_5, .ref q_9, .ref q_16, .null, .null, .null, .null, .int 0, .int 0, .int 0, .null, .int 0, .null, .int 0, .null])), (q_1, .inr (2, [.ref (z_3 0), .ref (z_3 1), .ref (z_3 2), .ref (z_3 3), .int 0])), ((z_3 0), .inl ((z_4 0), 8, .inl (fun _ => 16))), ((z_3 1), .inl ((z_4 1), 74, .inr (.inl (fun _ => 0)))), ((z_3 2), .inl ((z_4 2), 30, .inl (fun _ => 0))), ((z_3 3), .inl ((z_4 3), 30, .inr (.inl (fun _ => 0)))), (q_5, .inr (5, [.ref (z_7 0), .ref (z_7 1), .ref (z_7 2), .ref (z_7 3), .ref (z_7 4), .ref (z_7 5), .ref (z_7 6)])), ((z_7 0), .inl ((z_8 0), 12, .inl (fun _ => 0))), ((z_7 1), .inl ((z_8 1), 120, .inl (fun _ => 0))), ((z_7 2), .inl ((z_8 2), 120, .inl (fun _ => 0))), ((z_7 3), .inl ((z_8 3), 120, .inl (fun _ => 0))), ((z_7 4), .inl ((z_8 4), 120, .inl (fun _ => 0))), ((z_7 5), .inl ((z_8 5), 120, .inl (fun _ => 0))), ((z_7 6), .inl ((z_8 6), 120, .inl (fun _ => 0))), (q_9, .inr (3, [.ref (z_11 0), .ref (z_11 1), .ref (z_11 2), .ref (z_11 3), .int 1, .ref q_5, .ref z_13])), ((z_11 0), .inl ((z_12 0), 12, .inl (fun _ => 0))), ((z_11 1), .inl ((z_12 1), 12, .inl (fun _ => 0))), ((z_11 2), .inl ((z_12 2), 120, .inl (fun _ => 0))), ((z_11 3), .inl ((z_12 3), 120, .inl (fun _ => 0))), (z_13, .inr (6, [.ref (z_14 0), .ref q_5, .ref (z_14 1), .ref (z_14 2), .ref (z_14 3), .ref (z_14 4), .ref (z_14 5), .ref (z_14 6), .int 0, .int 0])), ((z_14 0), .inl ((z_15 0), 10, .inl (fun _ => 0))), ((z_14 1), .inl ((z_15 1), 10, .inl (fun _ => 0))), ((z_14 2), .inl ((z_15 2), 10, .inl (fun _ => 0))), ((z_14 3), .inl ((z_15 3), 10, .inl (fun _ => 0))), ((z_14 4), .inl ((z_15 4), 5, .inl (fun _ => 0))), ((z_14 5), .inl ((z_15 5), 5, .inl (fun _ => 0))), ((z_14 6), .inl ((z_15 6), 1024, .inl (fun _ => 0))), (q_16, .inr (4, [.int 0, .int 0, .ref (z_18 0), .ref (z_18 1), .ref (z_18 2), .ref (z_18 3), .ref (z_18 4), .ref q_5, .ref q_9])), ((z_18 0), .inl ((z_19 0), 120, .inl (fun _ => 0))), ((z_18 1), .inl ((z_19 1), 120, .inl (fun _ => 0))), ((z_18 2), .inl ((z_19 2), 120, .inl (fun _ => 0))), ((z_18 3), .inl ((z_19 3), 120, .inl (fun _ => 0))), ((z_18 4), .inl ((z_19 4), 120, .inl (fun _ => 0)))]) E h (fun w h => List.mem_cons_of_mem _ (List.mem_append_left _ (List.mem_append_left _ (List.mem_append_left _ (List.mem_append_left _ (List.mem_append_left _ (List.mem_append_left _ (List.mem_append_right _ h)))))))) tyX7_ok nmX7 0 rfl rfl 3 (by decide) (List.mem_of_getElem? (i := 19) rfl) rfl hnm rfl (by decide +kernel) rfl rfl (Nat.le_of_ble_eq_true rfl) rfl dX7_init_57 (fun H locs h => ?_)
  refine lv_aload_n hx hb dX7_init_60 rfl (lv_at hl 0 rfl) ?_
  refine k_new (ci := 1) (fs := [.null, .int 0, .int 0, .int 0, .null, .null, .null, .null, .null, .null, .null, .null]) (k := 33) (n := 2862) E h (fun w h => List.mem_cons_of_mem _ (List.mem_append_left _ (List.mem_append_left _ (List.mem_append_right _ h)))) tyX1_ok (List.mem_of_getElem? (i := 20) rfl) (List.mem_of_getElem? (i := 21) rfl) (List.mem_of_getElem? (i := 22) rfl) rfl (fun j hj => by rcases (show j = 0 ∨ j = 1 ∨ j = 2 ∨ j = 3 ∨ j = 4 ∨ j = 5 ∨ j = 6 ∨ j = 7 ∨ j = 8 ∨ j = 9 ∨ j = 10 ∨ j = 11 by omega) with rfl | rfl | rfl | rfl | rfl | rfl | rfl | rfl | rfl | rfl | rfl | rfl <;> rfl) (Nat.le_of_ble_eq_true rfl) (Nat.le_of_ble_eq_true rfl) dX7_init_61 (Nat.le_of_ble_eq_true rfl) (Nat.le_of_ble_eq_true rfl) (fun q_20 H h => ?_)
  have h : KS (dC, dI) A [(o7, .inr (7, [.ref q_1, .ref q_5, .ref q_9, .ref q_16, .null, .null, .null, .null, .int 0, .int 0, .int 0, .null, .int 0, .null, .int 0, .null])), (q_1, .inr (2, [.ref (z_3 0), .ref (z_3 1), .ref (z_3 2), .ref (z_3 3), .int 0])), ((z_3 0), .inl ((z_4 0), 8, .inl (fun _ => 16))), ((z_3 1), .inl ((z_4 1), 74, .inr (.inl (fun _ => 0)))), ((z_3 2), .inl ((z_4 2), 30, .inl (fun _ => 0))), ((z_3 3), .inl ((z_4 3), 30, .inr (.inl (fun _ => 0)))), (q_5, .inr (5, [.ref (z_7 0), .ref (z_7 1), .ref (z_7 2), .ref (z_7 3), .ref (z_7 4), .ref (z_7 5), .ref (z_7 6)])), ((z_7 0), .inl ((z_8 0), 12, .inl (fun _ => 0))), ((z_7 1), .inl ((z_8 1), 120, .inl (fun _ => 0))), ((z_7 2), .inl ((z_8 2), 120, .inl (fun _ => 0))), ((z_7 3), .inl ((z_8 3), 120, .inl (fun _ => 0))), ((z_7 4), .inl ((z_8 4), 120, .inl (fun _ => 0))), ((z_7 5), .inl ((z_8 5), 120, .inl (fun _ => 0))), ((z_7 6), .inl ((z_8 6), 120, .inl (fun _ => 0))), (q_9, .inr (3, [.ref (z_11 0), .ref (z_11 1), .ref (z_11 2), .ref (z_11 3), .int 1, .ref q_5, .ref z_13])), ((z_11 0), .inl ((z_12 0), 12, .inl (fun _ => 0))), ((z_11 1), .inl ((z_12 1), 12, .inl (fun _ => 0))), ((z_11 2), .inl ((z_12 2), 120, .inl (fun _ => 0))), ((z_11 3), .inl ((z_12 3), 120, .inl (fun _ => 0))), (z_13, .inr (6, [.ref (z_14 0), .ref q_5, .ref (z_14 1), .ref (z_14 2), .ref (z_14 3), .ref (z_14 4), .ref (z_14 5), .ref (z_14 6), .int 0, .int 0])), ((z_14 0), .inl ((z_15 0), 10, .inl (fun _ => 0))), ((z_14 1), .inl ((z_15 1), 10, .inl (fun _ => 0))), ((z_14 2), .inl ((z_15 2), 10, .inl (fun _ => 0))), ((z_14 3), .inl ((z_15 3), 10, .inl (fun _ => 0))), ((z_14 4), .inl ((z_15 4), 5, .inl (fun _ => 0))), ((z_14 5), .inl ((z_15 5), 5, .inl (fun _ => 0))), ((z_14 6), .inl ((z_15 6), 1024, .inl (fun _ => 0))), (q_16, .inr (4, [.int 0, .int 0, .ref (z_18 0), .ref (z_18 1), .ref (z_18 2), .ref (z_18 3), .ref (z_18 4), .ref q_5, .ref q_9])), ((z_18 0), .inl ((z_19 0), 120, .inl (fun _ => 0))), ((z_18 1), .inl ((z_19 1), 120, .inl (fun _ => 0))), ((z_18 2), .inl ((z_19 2), 120, .inl (fun _ => 0))), ((z_18 3), .inl ((z_19 3), 120, .inl (fun _ => 0))), ((z_18 4), .inl ((z_19 4), 120, .inl (fun _ => 0))), (q_20, .inr (1, [.null, .int 0, .int 0, .int 0, .null, .null, .null, .null, .null, .null, .null, .null]))] [((z_4 0), .int), ((z_4 1), .long), ((z_4 2), .int), ((z_4 3), .long), ((z_8 0), .int), ((z_8 1), .int), ((z_8 2), .int), ((z_8 3), .int), ((z_8 4), .int), ((z_8 5), .int), ((z_8 6), .int), ((z_12 0), .boolean), ((z_12 1), .int), ((z_12 2), .int), ((z_12 3), .int), ((z_15 0), .int), ((z_15 1), .int), ((z_15 2), .int), ((z_15 3), .int), ((z_15 4), .int), ((z_15 5), .int), ((z_15 6), .byte), ((z_19 0), .int), ((z_19 1), .int), ((z_19 2), .int), ((z_19 3), .int), ((z_19 4), .int)] s H _ := h
  refine lv_dup hx hb dX7_init_64 rfl ?_
  refine lv_aload_n hx hb dX7_init_65 rfl (lv_at hl 0 rfl) ?_
  refine k_get (v := .ref q_5) E h (fun w h => List.mem_cons_of_mem _ (List.mem_append_left _ (List.mem_append_left _ (List.mem_append_left _ (List.mem_append_left _ (List.mem_append_left _ (List.mem_append_left _ (List.mem_append_right _ h)))))))) 0 rfl rfl 1 (by decide) (List.mem_of_getElem? (i := 11) rfl) rfl dX7_init_66 ?_
  refine lv_aload_n hx hb dX7_init_69 rfl (lv_at hl 0 rfl) ?_
  refine k_get (v := .ref q_16) E h (fun w h => List.mem_cons_of_mem _ (List.mem_append_left _ (List.mem_append_left _ (List.mem_append_left _ (List.mem_append_left _ (List.mem_append_left _ (List.mem_append_left _ (List.mem_append_right _ h)))))))) 0 rfl rfl 3 (by decide) (List.mem_of_getElem? (i := 19) rfl) rfl dX7_init_70 ?_
  refine kc_vK (k := 40) (n := 3137) (wc := [(q_20, .inr (1, [.null, .int 0, .int 0, .int 0, .null, .null, .null, .null, .null, .null, .null, .null]))]) (wr := [(o7, .inr (7, [.ref q_1, .ref q_5, .ref q_9, .ref q_16, .null, .null, .null, .null, .int 0, .int 0, .int 0, .null, .int 0, .null, .int 0, .null])), (q_1, .inr (2, [.ref (z_3 0), .ref (z_3 1), .ref (z_3 2), .ref (z_3 3), .int 0])), ((z_3 0), .inl ((z_4 0), 8, .inl (fun _ => 16))), ((z_3 1), .inl ((z_4 1), 74, .inr (.inl (fun _ => 0)))), ((z_3 2), .inl ((z_4 2), 30, .inl (fun _ => 0))), ((z_3 3), .inl ((z_4 3), 30, .inr (.inl (fun _ => 0)))), (q_5, .inr (5, [.ref (z_7 0), .ref (z_7 1), .ref (z_7 2), .ref (z_7 3), .ref (z_7 4), .ref (z_7 5), .ref (z_7 6)])), ((z_7 0), .inl ((z_8 0), 12, .inl (fun _ => 0))), ((z_7 1), .inl ((z_8 1), 120, .inl (fun _ => 0))), ((z_7 2), .inl ((z_8 2), 120, .inl (fun _ => 0))), ((z_7 3), .inl ((z_8 3), 120, .inl (fun _ => 0))), ((z_7 4), .inl ((z_8 4), 120, .inl (fun _ => 0))), ((z_7 5), .inl ((z_8 5), 120, .inl (fun _ => 0))), ((z_7 6), .inl ((z_8 6), 120, .inl (fun _ => 0))), (q_9, .inr (3, [.ref (z_11 0), .ref (z_11 1), .ref (z_11 2), .ref (z_11 3), .int 1, .ref q_5, .ref z_13])), ((z_11 0), .inl ((z_12 0), 12, .inl (fun _ => 0))), ((z_11 1), .inl ((z_12 1), 12, .inl (fun _ => 0))), ((z_11 2), .inl ((z_12 2), 120, .inl (fun _ => 0))), ((z_11 3), .inl ((z_12 3), 120, .inl (fun _ => 0))), (z_13, .inr (6, [.ref (z_14 0), .ref q_5, .ref (z_14 1), .ref (z_14 2), .ref (z_14 3), .ref (z_14 4), .ref (z_14 5), .ref (z_14 6), .int 0, .int 0])), ((z_14 0), .inl ((z_15 0), 10, .inl (fun _ => 0))), ((z_14 1), .inl ((z_15 1), 10, .inl (fun _ => 0))), ((z_14 2), .inl ((z_15 2), 10, .inl (fun _ => 0))), ((z_14 3), .inl ((z_15 3), 10, .inl (fun _ => 0))), ((z_14 4), .inl ((z_15 4), 5, .inl (fun _ => 0))), ((z_14 5), .inl ((z_15 5), 5, .inl (fun _ => 0))), ((z_14 6), .inl ((z_15 6), 1024, .inl (fun _ => 0))), (q_16, .inr (4, [.int 0, .int 0, .ref (z_18 0), .ref (z_18 1), .ref (z_18 2), .ref (z_18 3), .ref (z_18 4), .ref q_5, .ref q_9])), ((z_18 0), .inl ((z_19 0), 120, .inl (fun _ => 0))), ((z_18 1), .inl ((z_19 1), 120, .inl (fun _ => 0))), ((z_18 2), .inl ((z_19 2), 120, .inl (fun _ => 0))), ((z_18 3), .inl ((z_19 3), 120, .inl (fun _ => 0))), ((z_18 4), .inl ((z_19 4), 120, .inl (fun _ => 0)))]) h (va_runI (As := [.ref q_5, .ref q_16]) (rest := [.ref q_20, .ref o7]) E (c_X1_init l dC dI _ (o1 := q_20) (o5 := q_5) (o4 := q_16)  ) (cwI 2 E.2.2.2.2 gX7_init_X1_init rfl rfl rfl (E.2.2.2.2 _ (List.mem_of_getElem? (i := 22) rfl)) (E.2.2.2.2 _ (List.mem_of_getElem? (i := 98) rfl)) (E.2.2.2.2 _ (List.mem_of_getElem? (i := 99) rfl)) rfl (by decide +kernel) ⟨Nat.le_of_ble_eq_true rfl, Nat.le_of_ble_eq_true rfl⟩) (kPreS h KX_true (fun _ _ _ => trivial) [33] [] (by decide) rfl rfl) rfl rfl hl.1 rfl (lv_room (Nat.le_of_ble_eq_true rfl)) dX7_init_73 ⟨Nat.le_of_ble_eq_true rfl, Nat.le_of_ble_eq_true rfl⟩) [33] [0, 1, 2, 3, 4, 5, 6, 7, 8, 9, 10, 11, 12, 13, 14, 15, 16, 17, 18, 19, 20, 21, 22, 23, 24, 25, 26, 27, 28, 29, 30, 31, 32] rfl rfl (by decide) (by decide) (Nat.le_of_ble_eq_true rfl) (Nat.le_of_ble_eq_true rfl) (fun u_21 H locs hw_21 h => ?_)
  obtain ⟨z_22, z_23⟩ := u_21
  have h : KS (dC, dI) A [(o7, .inr (7, [.ref q_1, .ref q_5, .ref q_9, .ref q_16, .null, .null, .null, .null, .int 0, .int 0, .int 0, .null, .int 0, .null, .int 0, .null])), (q_1, .inr (2, [.ref (z_3 0), .ref (z_3 1), .ref (z_3 2), .ref (z_3 3), .int 0])), ((z_3 0), .inl ((z_4 0), 8, .inl (fun _ => 16))), ((z_3 1), .inl ((z_4 1), 74, .inr (.inl (fun _ => 0)))), ((z_3 2), .inl ((z_4 2), 30, .inl (fun _ => 0))), ((z_3 3), .inl ((z_4 3), 30, .inr (.inl (fun _ => 0)))), (q_5, .inr (5, [.ref (z_7 0), .ref (z_7 1), .ref (z_7 2), .ref (z_7 3), .ref (z_7 4), .ref (z_7 5), .ref (z_7 6)])), ((z_7 0), .inl ((z_8 0), 12, .inl (fun _ => 0))), ((z_7 1), .inl ((z_8 1), 120, .inl (fun _ => 0))), ((z_7 2), .inl ((z_8 2), 120, .inl (fun _ => 0))), ((z_7 3), .inl ((z_8 3), 120, .inl (fun _ => 0))), ((z_7 4), .inl ((z_8 4), 120, .inl (fun _ => 0))), ((z_7 5), .inl ((z_8 5), 120, .inl (fun _ => 0))), ((z_7 6), .inl ((z_8 6), 120, .inl (fun _ => 0))), (q_9, .inr (3, [.ref (z_11 0), .ref (z_11 1), .ref (z_11 2), .ref (z_11 3), .int 1, .ref q_5, .ref z_13])), ((z_11 0), .inl ((z_12 0), 12, .inl (fun _ => 0))), ((z_11 1), .inl ((z_12 1), 12, .inl (fun _ => 0))), ((z_11 2), .inl ((z_12 2), 120, .inl (fun _ => 0))), ((z_11 3), .inl ((z_12 3), 120, .inl (fun _ => 0))), (z_13, .inr (6, [.ref (z_14 0), .ref q_5, .ref (z_14 1), .ref (z_14 2), .ref (z_14 3), .ref (z_14 4), .ref (z_14 5), .ref (z_14 6), .int 0, .int 0])), ((z_14 0), .inl ((z_15 0), 10, .inl (fun _ => 0))), ((z_14 1), .inl ((z_15 1), 10, .inl (fun _ => 0))), ((z_14 2), .inl ((z_15 2), 10, .inl (fun _ => 0))), ((z_14 3), .inl ((z_15 3), 10, .inl (fun _ => 0))), ((z_14 4), .inl ((z_15 4), 5, .inl (fun _ => 0))), ((z_14 5), .inl ((z_15 5), 5, .inl (fun _ => 0))), ((z_14 6), .inl ((z_15 6), 1024, .inl (fun _ => 0))), (q_16, .inr (4, [.int 0, .int 0, .ref (z_18 0), .ref (z_18 1), .ref (z_18 2), .ref (z_18 3), .ref (z_18 4), .ref q_5, .ref q_9])), ((z_18 0), .inl ((z_19 0), 120, .inl (fun _ => 0))), ((z_18 1), .inl ((z_19 1), 120, .inl (fun _ => 0))), ((z_18 2), .inl ((z_19 2), 120, .inl (fun _ => 0))), ((z_18 3), .inl ((z_19 3), 120, .inl (fun _ => 0))), ((z_18 4), .inl ((z_19 4), 120, .inl (fun _ => 0))), (q_20, .inr (1, [.ref (z_22 0), .int 0, .int 0, .int 0, .ref (z_22 1), .ref (z_22 2), .ref (z_22 3), .ref (z_22 4), .ref (z_22 5), .ref (z_22 6), .ref q_5, .ref q_16])), ((z_22 0), .inl ((z_23 0), 7, .inl (fun _ => 0))), ((z_22 1), .inl ((z_23 1), 120, .inl (fun _ => 0))), ((z_22 2), .inl ((z_23 2), 120, .inl (fun _ => 0))), ((z_22 3), .inl ((z_23 3), 7, .inl (fun _ => 0))), ((z_22 4), .inl ((z_23 4), 7, .inl (fun _ => 0))), ((z_22 5), .inl ((z_23 5), 7, .inl (fun _ => 0))), ((z_22 6), .inl ((z_23 6), 7, .inl (fun _ => 0)))] [((z_4 0), .int), ((z_4 1), .long), ((z_4 2), .int), ((z_4 3), .long), ((z_8 0), .int), ((z_8 1), .int), ((z_8 2), .int), ((z_8 3), .int), ((z_8 4), .int), ((z_8 5), .int), ((z_8 6), .int), ((z_12 0), .boolean), ((z_12 1), .int), ((z_12 2), .int), ((z_12 3), .int), ((z_15 0), .int), ((z_15 1), .int), ((z_15 2), .int), ((z_15 3), .int), ((z_15 4), .int), ((z_15 5), .int), ((z_15 6), .byte), ((z_19 0), .int), ((z_19 1), .int), ((z_19 2), .int), ((z_19 3), .int), ((z_19 4), .int), ((z_23 0), .int), ((z_23 1), .int), ((z_23 2), .int), ((z_23 3), .int), ((z_23 4), .int), ((z_23 5), .int), ((z_23 6), .int)] s H locs := h
  refine W.eq (g2 := F0 m 76 ls [.ref q_20, .ref o7]) rfl ?_
  refine k_putF (v := .ref q_20) (ty := .object "StepStore$Fields") (ws' := [(o7, .inr (7, [.ref q_1, .ref q_5, .ref q_9, .ref q_16, .ref q_20, .null, .null, .null, .int 0, .int 0, .int 0, .null, .int 0, .null, .int 0, .null])), (q_1, .inr (2, [.ref (z_3 0), .ref (z_3 1), .ref (z_3 2), .ref (z_3 3), .int 0])), ((z_3 0), .inl ((z_4 0), 8, .inl (fun _ => 16))), ((z_3 1), .inl ((z_4 1), 74, .inr (.inl (fun _ => 0)))), ((z_3 2), .inl ((z_4 2), 30, .inl (fun _ => 0))), ((z_3 3), .inl ((z_4 3), 30, .inr (.inl (fun _ => 0)))), (q_5, .inr (5, [.ref (z_7 0), .ref (z_7 1), .ref (z_7 2), .ref (z_7 3), .ref (z_7 4), .ref (z_7 5), .ref (z_7 6)])), ((z_7 0), .inl ((z_8 0), 12, .inl (fun _ => 0))), ((z_7 1), .inl ((z_8 1), 120, .inl (fun _ => 0))), ((z_7 2), .inl ((z_8 2), 120, .inl (fun _ => 0))), ((z_7 3), .inl ((z_8 3), 120, .inl (fun _ => 0))), ((z_7 4), .inl ((z_8 4), 120, .inl (fun _ => 0))), ((z_7 5), .inl ((z_8 5), 120, .inl (fun _ => 0))), ((z_7 6), .inl ((z_8 6), 120, .inl (fun _ => 0))), (q_9, .inr (3, [.ref (z_11 0), .ref (z_11 1), .ref (z_11 2), .ref (z_11 3), .int 1, .ref q_5, .ref z_13])), ((z_11 0), .inl ((z_12 0), 12, .inl (fun _ => 0))), ((z_11 1), .inl ((z_12 1), 12, .inl (fun _ => 0))), ((z_11 2), .inl ((z_12 2), 120, .inl (fun _ => 0))), ((z_11 3), .inl ((z_12 3), 120, .inl (fun _ => 0))), (z_13, .inr (6, [.ref (z_14 0), .ref q_5, .ref (z_14 1), .ref (z_14 2), .ref (z_14 3), .ref (z_14 4), .ref (z_14 5), .ref (z_14 6), .int 0, .int 0])), ((z_14 0), .inl ((z_15 0), 10, .inl (fun _ => 0))), ((z_14 1), .inl ((z_15 1), 10, .inl (fun _ => 0))), ((z_14 2), .inl ((z_15 2), 10, .inl (fun _ => 0))), ((z_14 3), .inl ((z_15 3), 10, .inl (fun _ => 0))), ((z_14 4), .inl ((z_15 4), 5, .inl (fun _ => 0))), ((z_14 5), .inl ((z_15 5), 5, .inl (fun _ => 0))), ((z_14 6), .inl ((z_15 6), 1024, .inl (fun _ => 0))), (q_16, .inr (4, [.int 0, .int 0, .ref (z_18 0), .ref (z_18 1), .ref (z_18 2), .ref (z_18 3), .ref (z_18 4), .ref q_5, .ref q_9])), ((z_18 0), .inl ((z_19 0), 120, .inl (fun _ => 0))), ((z_18 1), .inl ((z_19 1), 120, .inl (fun _ => 0))), ((z_18 2), .inl ((z_19 2), 120, .inl (fun _ => 0))), ((z_18 3), .inl ((z_19 3), 120, .inl (fun _ => 0))), ((z_18 4), .inl ((z_19 4), 120, .inl (fun _ => 0))), (q_20, .inr (1, [.ref (z_22 0), .int 0, .int 0, .int 0, .ref (z_22 1), .ref (z_22 2), .ref (z_22 3), .ref (z_22 4), .ref (z_22 5), .ref (z_22 6), .ref q_5, .ref q_16])), ((z_22 0), .inl ((z_23 0), 7, .inl (fun _ => 0))), ((z_22 1), .inl ((z_23 1), 120, .inl (fun _ => 0))), ((z_22 2), .inl ((z_23 2), 120, .inl (fun _ => 0))), ((z_22 3), .inl ((z_23 3), 7, .inl (fun _ => 0))), ((z_22 4), .inl ((z_23 4), 7, .inl (fun _ => 0))), ((z_22 5), .inl ((z_23 5), 7, .inl (fun _ => 0))), ((z_22 6), .inl ((z_23 6), 7, .inl (fun _ => 0)))]) E h (fun w h => List.mem_cons_of_mem _ (List.mem_append_left _ (List.mem_append_left _ (List.mem_append_left _ (List.mem_append_left _ (List.mem_append_left _ (List.mem_append_left _ (List.mem_append_right _ h)))))))) tyX7_ok nmX7 0 rfl rfl 4 (by decide) (List.mem_of_getElem? (i := 23) rfl) rfl hnm rfl (by decide +kernel) rfl rfl (Nat.le_of_ble_eq_true rfl) rfl dX7_init_76 (fun H locs h => ?_)
  refine lv_aload_n hx hb dX7_init_79 rfl (lv_at hl 0 rfl) ?_
  refine k_new (ci := 0) (fs := [.int 0, .int 0, .int 0, .null, .null, .null, .null, .null, .int 0, .null]) (k := 41) (n := 3147) E h (fun w h => List.mem_cons_of_mem _ (List.mem_append_left _ (List.mem_append_right _ h))) tyX0_ok (List.mem_of_getElem? (i := 24) rfl) (List.mem_of_getElem? (i := 25) rfl) (List.mem_of_getElem? (i := 26) rfl) rfl (fun j hj => by rcases (show j = 0 ∨ j = 1 ∨ j = 2 ∨ j = 3 ∨ j = 4 ∨ j = 5 ∨ j = 6 ∨ j = 7 ∨ j = 8 ∨ j = 9 by omega) with rfl | rfl | rfl | rfl | rfl | rfl | rfl | rfl | rfl | rfl <;> rfl) (Nat.le_of_ble_eq_true rfl) (Nat.le_of_ble_eq_true rfl) dX7_init_80 (Nat.le_of_ble_eq_true rfl) (Nat.le_of_ble_eq_true rfl) (fun q_24 H h => ?_)
  have h : KS (dC, dI) A [(o7, .inr (7, [.ref q_1, .ref q_5, .ref q_9, .ref q_16, .ref q_20, .null, .null, .null, .int 0, .int 0, .int 0, .null, .int 0, .null, .int 0, .null])), (q_1, .inr (2, [.ref (z_3 0), .ref (z_3 1), .ref (z_3 2), .ref (z_3 3), .int 0])), ((z_3 0), .inl ((z_4 0), 8, .inl (fun _ => 16))), ((z_3 1), .inl ((z_4 1), 74, .inr (.inl (fun _ => 0)))), ((z_3 2), .inl ((z_4 2), 30, .inl (fun _ => 0))), ((z_3 3), .inl ((z_4 3), 30, .inr (.inl (fun _ => 0)))), (q_5, .inr (5, [.ref (z_7 0), .ref (z_7 1), .ref (z_7 2), .ref (z_7 3), .ref (z_7 4), .ref (z_7 5), .ref (z_7 6)])), ((z_7 0), .inl ((z_8 0), 12, .inl (fun _ => 0))), ((z_7 1), .inl ((z_8 1), 120, .inl (fun _ => 0))), ((z_7 2), .inl ((z_8 2), 120, .inl (fun _ => 0))), ((z_7 3), .inl ((z_8 3), 120, .inl (fun _ => 0))), ((z_7 4), .inl ((z_8 4), 120, .inl (fun _ => 0))), ((z_7 5), .inl ((z_8 5), 120, .inl (fun _ => 0))), ((z_7 6), .inl ((z_8 6), 120, .inl (fun _ => 0))), (q_9, .inr (3, [.ref (z_11 0), .ref (z_11 1), .ref (z_11 2), .ref (z_11 3), .int 1, .ref q_5, .ref z_13])), ((z_11 0), .inl ((z_12 0), 12, .inl (fun _ => 0))), ((z_11 1), .inl ((z_12 1), 12, .inl (fun _ => 0))), ((z_11 2), .inl ((z_12 2), 120, .inl (fun _ => 0))), ((z_11 3), .inl ((z_12 3), 120, .inl (fun _ => 0))), (z_13, .inr (6, [.ref (z_14 0), .ref q_5, .ref (z_14 1), .ref (z_14 2), .ref (z_14 3), .ref (z_14 4), .ref (z_14 5), .ref (z_14 6), .int 0, .int 0])), ((z_14 0), .inl ((z_15 0), 10, .inl (fun _ => 0))), ((z_14 1), .inl ((z_15 1), 10, .inl (fun _ => 0))), ((z_14 2), .inl ((z_15 2), 10, .inl (fun _ => 0))), ((z_14 3), .inl ((z_15 3), 10, .inl (fun _ => 0))), ((z_14 4), .inl ((z_15 4), 5, .inl (fun _ => 0))), ((z_14 5), .inl ((z_15 5), 5, .inl (fun _ => 0))), ((z_14 6), .inl ((z_15 6), 1024, .inl (fun _ => 0))), (q_16, .inr (4, [.int 0, .int 0, .ref (z_18 0), .ref (z_18 1), .ref (z_18 2), .ref (z_18 3), .ref (z_18 4), .ref q_5, .ref q_9])), ((z_18 0), .inl ((z_19 0), 120, .inl (fun _ => 0))), ((z_18 1), .inl ((z_19 1), 120, .inl (fun _ => 0))), ((z_18 2), .inl ((z_19 2), 120, .inl (fun _ => 0))), ((z_18 3), .inl ((z_19 3), 120, .inl (fun _ => 0))), ((z_18 4), .inl ((z_19 4), 120, .inl (fun _ => 0))), (q_20, .inr (1, [.ref (z_22 0), .int 0, .int 0, .int 0, .ref (z_22 1), .ref (z_22 2), .ref (z_22 3), .ref (z_22 4), .ref (z_22 5), .ref (z_22 6), .ref q_5, .ref q_16])), ((z_22 0), .inl ((z_23 0), 7, .inl (fun _ => 0))), ((z_22 1), .inl ((z_23 1), 120, .inl (fun _ => 0))), ((z_22 2), .inl ((z_23 2), 120, .inl (fun _ => 0))), ((z_22 3), .inl ((z_23 3), 7, .inl (fun _ => 0))), ((z_22 4), .inl ((z_23 4), 7, .inl (fun _ => 0))), ((z_22 5), .inl ((z_23 5), 7, .inl (fun _ => 0))), ((z_22 6), .inl ((z_23 6), 7, .inl (fun _ => 0))), (q_24, .inr (0, [.int 0, .int 0, .int 0, .null, .null, .null, .null, .null, .int 0, .null]))] [((z_4 0), .int), ((z_4 1), .long), ((z_4 2), .int), ((z_4 3), .long), ((z_8 0), .int), ((z_8 1), .int), ((z_8 2), .int), ((z_8 3), .int), ((z_8 4), .int), ((z_8 5), .int), ((z_8 6), .int), ((z_12 0), .boolean), ((z_12 1), .int), ((z_12 2), .int), ((z_12 3), .int), ((z_15 0), .int), ((z_15 1), .int), ((z_15 2), .int), ((z_15 3), .int), ((z_15 4), .int), ((z_15 5), .int), ((z_15 6), .byte), ((z_19 0), .int), ((z_19 1), .int), ((z_19 2), .int), ((z_19 3), .int), ((z_19 4), .int), ((z_23 0), .int), ((z_23 1), .int), ((z_23 2), .int), ((z_23 3), .int), ((z_23 4), .int), ((z_23 5), .int), ((z_23 6), .int)] s H _ := h
  refine lv_dup hx hb dX7_init_83 rfl ?_
  refine lv_aload_n hx hb dX7_init_84 rfl (lv_at hl 0 rfl) ?_
  refine k_get (v := .ref q_1) E h (fun w h => List.mem_cons_of_mem _ (List.mem_append_left _ (List.mem_append_left _ (List.mem_append_left _ (List.mem_append_left _ (List.mem_append_left _ (List.mem_append_left _ (List.mem_append_right _ h)))))))) 0 rfl rfl 0 (by decide) (List.mem_of_getElem? (i := 7) rfl) rfl dX7_init_85 ?_
  refine lv_aload_n hx hb dX7_init_88 rfl (lv_at hl 0 rfl) ?_
  refine k_get (v := .ref q_5) E h (fun w h => List.mem_cons_of_mem _ (List.mem_append_left _ (List.mem_append_left _ (List.mem_append_left _ (List.mem_append_left _ (List.mem_append_left _ (List.mem_append_left _ (List.mem_append_right _ h)))))))) 0 rfl rfl 1 (by decide) (List.mem_of_getElem? (i := 11) rfl) rfl dX7_init_89 ?_
  refine lv_aload_n hx hb dX7_init_92 rfl (lv_at hl 0 rfl) ?_
  refine k_get (v := .ref q_9) E h (fun w h => List.mem_cons_of_mem _ (List.mem_append_left _ (List.mem_append_left _ (List.mem_append_left _ (List.mem_append_left _ (List.mem_append_left _ (List.mem_append_left _ (List.mem_append_right _ h)))))))) 0 rfl rfl 2 (by decide) (List.mem_of_getElem? (i := 15) rfl) rfl dX7_init_93 ?_
  refine kc_vK (k := 44) (n := 3281) (wc := [(q_24, .inr (0, [.int 0, .int 0, .int 0, .null, .null, .null, .null, .null, .int 0, .null]))]) (wr := [(o7, .inr (7, [.ref q_1, .ref q_5, .ref q_9, .ref q_16, .ref q_20, .null, .null, .null, .int 0, .int 0, .int 0, .null, .int 0, .null, .int 0, .null])), (q_1, .inr (2, [.ref (z_3 0), .ref (z_3 1), .ref (z_3 2), .ref (z_3 3), .int 0])), ((z_3 0), .inl ((z_4 0), 8, .inl (fun _ => 16))), ((z_3 1), .inl ((z_4 1), 74, .inr (.inl (fun _ => 0)))), ((z_3 2), .inl ((z_4 2), 30, .inl (fun _ => 0))), ((z_3 3), .inl ((z_4 3), 30, .inr (.inl (fun _ => 0)))), (q_5, .inr (5, [.ref (z_7 0), .ref (z_7 1), .ref (z_7 2), .ref (z_7 3), .ref (z_7 4), .ref (z_7 5), .ref (z_7 6)])), ((z_7 0), .inl ((z_8 0), 12, .inl (fun _ => 0))), ((z_7 1), .inl ((z_8 1), 120, .inl (fun _ => 0))), ((z_7 2), .inl ((z_8 2), 120, .inl (fun _ => 0))), ((z_7 3), .inl ((z_8 3), 120, .inl (fun _ => 0))), ((z_7 4), .inl ((z_8 4), 120, .inl (fun _ => 0))), ((z_7 5), .inl ((z_8 5), 120, .inl (fun _ => 0))), ((z_7 6), .inl ((z_8 6), 120, .inl (fun _ => 0))), (q_9, .inr (3, [.ref (z_11 0), .ref (z_11 1), .ref (z_11 2), .ref (z_11 3), .int 1, .ref q_5, .ref z_13])), ((z_11 0), .inl ((z_12 0), 12, .inl (fun _ => 0))), ((z_11 1), .inl ((z_12 1), 12, .inl (fun _ => 0))), ((z_11 2), .inl ((z_12 2), 120, .inl (fun _ => 0))), ((z_11 3), .inl ((z_12 3), 120, .inl (fun _ => 0))), (z_13, .inr (6, [.ref (z_14 0), .ref q_5, .ref (z_14 1), .ref (z_14 2), .ref (z_14 3), .ref (z_14 4), .ref (z_14 5), .ref (z_14 6), .int 0, .int 0])), ((z_14 0), .inl ((z_15 0), 10, .inl (fun _ => 0))), ((z_14 1), .inl ((z_15 1), 10, .inl (fun _ => 0))), ((z_14 2), .inl ((z_15 2), 10, .inl (fun _ => 0))), ((z_14 3), .inl ((z_15 3), 10, .inl (fun _ => 0))), ((z_14 4), .inl ((z_15 4), 5, .inl (fun _ => 0))), ((z_14 5), .inl ((z_15 5), 5, .inl (fun _ => 0))), ((z_14 6), .inl ((z_15 6), 1024, .inl (fun _ => 0))), (q_16, .inr (4, [.int 0, .int 0, .ref (z_18 0), .ref (z_18 1), .ref (z_18 2), .ref (z_18 3), .ref (z_18 4), .ref q_5, .ref q_9])), ((z_18 0), .inl ((z_19 0), 120, .inl (fun _ => 0))), ((z_18 1), .inl ((z_19 1), 120, .inl (fun _ => 0))), ((z_18 2), .inl ((z_19 2), 120, .inl (fun _ => 0))), ((z_18 3), .inl ((z_19 3), 120, .inl (fun _ => 0))), ((z_18 4), .inl ((z_19 4), 120, .inl (fun _ => 0))), (q_20, .inr (1, [.ref (z_22 0), .int 0, .int 0, .int 0, .ref (z_22 1), .ref (z_22 2), .ref (z_22 3), .ref (z_22 4), .ref (z_22 5), .ref (z_22 6), .ref q_5, .ref q_16])), ((z_22 0), .inl ((z_23 0), 7, .inl (fun _ => 0))), ((z_22 1), .inl ((z_23 1), 120, .inl (fun _ => 0))), ((z_22 2), .inl ((z_23 2), 120, .inl (fun _ => 0))), ((z_22 3), .inl ((z_23 3), 7, .inl (fun _ => 0))), ((z_22 4), .inl ((z_23 4), 7, .inl (fun _ => 0))), ((z_22 5), .inl ((z_23 5), 7, .inl (fun _ => 0))), ((z_22 6), .inl ((z_23 6), 7, .inl (fun _ => 0)))]) h (va_runI (As := [.ref q_1, .ref q_5, .ref q_9]) (rest := [.ref q_24, .ref o7]) E (c_X0_init l dC dI _ (o0 := q_24) (o2 := q_1) (o5 := q_5) (o3 := q_9)  ) (cwI 3 E.2.2.2.2 gX7_init_X0_init rfl rfl rfl (E.2.2.2.2 _ (List.mem_of_getElem? (i := 26) rfl)) (E.2.2.2.2 _ (List.mem_of_getElem? (i := 111) rfl)) (E.2.2.2.2 _ (List.mem_of_getElem? (i := 112) rfl)) rfl (by decide +kernel) ⟨Nat.le_of_ble_eq_true rfl, Nat.le_of_ble_eq_true rfl⟩) (kPreS h KX_true (fun _ _ _ => trivial) [41] [] (by decide) rfl rfl) rfl rfl hl.1 rfl (lv_room (Nat.le_of_ble_eq_true rfl)) dX7_init_96 ⟨Nat.le_of_ble_eq_true rfl, Nat.le_of_ble_eq_true rfl⟩) [41] [0, 1, 2, 3, 4, 5, 6, 7, 8, 9, 10, 11, 12, 13, 14, 15, 16, 17, 18, 19, 20, 21, 22, 23, 24, 25, 26, 27, 28, 29, 30, 31, 32, 33, 34, 35, 36, 37, 38, 39, 40] rfl rfl (by decide) (by decide) (Nat.le_of_ble_eq_true rfl) (Nat.le_of_ble_eq_true rfl) (fun u_25 H locs hw_25 h => ?_)
  obtain ⟨z_26, z_27⟩ := u_25
  have h : KS (dC, dI) A [(o7, .inr (7, [.ref q_1, .ref q_5, .ref q_9, .ref q_16, .ref q_20, .null, .null, .null, .int 0, .int 0, .int 0, .null, .int 0, .null, .int 0, .null])), (q_1, .inr (2, [.ref (z_3 0), .ref (z_3 1), .ref (z_3 2), .ref (z_3 3), .int 0])), ((z_3 0), .inl ((z_4 0), 8, .inl (fun _ => 16))), ((z_3 1), .inl ((z_4 1), 74, .inr (.inl (fun _ => 0)))), ((z_3 2), .inl ((z_4 2), 30, .inl (fun _ => 0))), ((z_3 3), .inl ((z_4 3), 30, .inr (.inl (fun _ => 0)))), (q_5, .inr (5, [.ref (z_7 0), .ref (z_7 1), .ref (z_7 2), .ref (z_7 3), .ref (z_7 4), .ref (z_7 5), .ref (z_7 6)])), ((z_7 0), .inl ((z_8 0), 12, .inl (fun _ => 0))), ((z_7 1), .inl ((z_8 1), 120, .inl (fun _ => 0))), ((z_7 2), .inl ((z_8 2), 120, .inl (fun _ => 0))), ((z_7 3), .inl ((z_8 3), 120, .inl (fun _ => 0))), ((z_7 4), .inl ((z_8 4), 120, .inl (fun _ => 0))), ((z_7 5), .inl ((z_8 5), 120, .inl (fun _ => 0))), ((z_7 6), .inl ((z_8 6), 120, .inl (fun _ => 0))), (q_9, .inr (3, [.ref (z_11 0), .ref (z_11 1), .ref (z_11 2), .ref (z_11 3), .int 1, .ref q_5, .ref z_13])), ((z_11 0), .inl ((z_12 0), 12, .inl (fun _ => 0))), ((z_11 1), .inl ((z_12 1), 12, .inl (fun _ => 0))), ((z_11 2), .inl ((z_12 2), 120, .inl (fun _ => 0))), ((z_11 3), .inl ((z_12 3), 120, .inl (fun _ => 0))), (z_13, .inr (6, [.ref (z_14 0), .ref q_5, .ref (z_14 1), .ref (z_14 2), .ref (z_14 3), .ref (z_14 4), .ref (z_14 5), .ref (z_14 6), .int 0, .int 0])), ((z_14 0), .inl ((z_15 0), 10, .inl (fun _ => 0))), ((z_14 1), .inl ((z_15 1), 10, .inl (fun _ => 0))), ((z_14 2), .inl ((z_15 2), 10, .inl (fun _ => 0))), ((z_14 3), .inl ((z_15 3), 10, .inl (fun _ => 0))), ((z_14 4), .inl ((z_15 4), 5, .inl (fun _ => 0))), ((z_14 5), .inl ((z_15 5), 5, .inl (fun _ => 0))), ((z_14 6), .inl ((z_15 6), 1024, .inl (fun _ => 0))), (q_16, .inr (4, [.int 0, .int 0, .ref (z_18 0), .ref (z_18 1), .ref (z_18 2), .ref (z_18 3), .ref (z_18 4), .ref q_5, .ref q_9])), ((z_18 0), .inl ((z_19 0), 120, .inl (fun _ => 0))), ((z_18 1), .inl ((z_19 1), 120, .inl (fun _ => 0))), ((z_18 2), .inl ((z_19 2), 120, .inl (fun _ => 0))), ((z_18 3), .inl ((z_19 3), 120, .inl (fun _ => 0))), ((z_18 4), .inl ((z_19 4), 120, .inl (fun _ => 0))), (q_20, .inr (1, [.ref (z_22 0), .int 0, .int 0, .int 0, .ref (z_22 1), .ref (z_22 2), .ref (z_22 3), .ref (z_22 4), .ref (z_22 5), .ref (z_22 6), .ref q_5, .ref q_16])), ((z_22 0), .inl ((z_23 0), 7, .inl (fun _ => 0))), ((z_22 1), .inl ((z_23 1), 120, .inl (fun _ => 0))), ((z_22 2), .inl ((z_23 2), 120, .inl (fun _ => 0))), ((z_22 3), .inl ((z_23 3), 7, .inl (fun _ => 0))), ((z_22 4), .inl ((z_23 4), 7, .inl (fun _ => 0))), ((z_22 5), .inl ((z_23 5), 7, .inl (fun _ => 0))), ((z_22 6), .inl ((z_23 6), 7, .inl (fun _ => 0))), (q_24, .inr (0, [.int 0, .int 0, .int (-1), .ref q_1, .ref q_5, .ref q_9, .ref (z_26 0), .ref (z_26 1), .int 0, .ref (z_26 2)])), ((z_26 0), .inl ((z_27 0), 30, .inl (fun _ => 0))), ((z_26 1), .inl ((z_27 1), 30, .inr (.inl (fun _ => 0)))), ((z_26 2), .inl ((z_27 2), 74, .inr (.inl (fun _ => 0))))] [((z_4 0), .int), ((z_4 1), .long), ((z_4 2), .int), ((z_4 3), .long), ((z_8 0), .int), ((z_8 1), .int), ((z_8 2), .int), ((z_8 3), .int), ((z_8 4), .int), ((z_8 5), .int), ((z_8 6), .int), ((z_12 0), .boolean), ((z_12 1), .int), ((z_12 2), .int), ((z_12 3), .int), ((z_15 0), .int), ((z_15 1), .int), ((z_15 2), .int), ((z_15 3), .int), ((z_15 4), .int), ((z_15 5), .int), ((z_15 6), .byte), ((z_19 0), .int), ((z_19 1), .int), ((z_19 2), .int), ((z_19 3), .int), ((z_19 4), .int), ((z_23 0), .int), ((z_23 1), .int), ((z_23 2), .int), ((z_23 3), .int), ((z_23 4), .int), ((z_23 5), .int), ((z_23 6), .int), ((z_27 0), .int), ((z_27 1), .long), ((z_27 2), .long)] s H locs := h
  refine W.eq (g2 := F0 m 99 ls [.ref q_24, .ref o7]) rfl ?_
  refine k_putF (v := .ref q_24) (ty := .object "StepStore$Doer") (ws' := [(o7, .inr (7, [.ref q_1, .ref q_5, .ref q_9, .ref q_16, .ref q_20, .ref q_24, .null, .null, .int 0, .int 0, .int 0, .null, .int 0, .null, .int 0, .null])), (q_1, .inr (2, [.ref (z_3 0), .ref (z_3 1), .ref (z_3 2), .ref (z_3 3), .int 0])), ((z_3 0), .inl ((z_4 0), 8, .inl (fun _ => 16))), ((z_3 1), .inl ((z_4 1), 74, .inr (.inl (fun _ => 0)))), ((z_3 2), .inl ((z_4 2), 30, .inl (fun _ => 0))), ((z_3 3), .inl ((z_4 3), 30, .inr (.inl (fun _ => 0)))), (q_5, .inr (5, [.ref (z_7 0), .ref (z_7 1), .ref (z_7 2), .ref (z_7 3), .ref (z_7 4), .ref (z_7 5), .ref (z_7 6)])), ((z_7 0), .inl ((z_8 0), 12, .inl (fun _ => 0))), ((z_7 1), .inl ((z_8 1), 120, .inl (fun _ => 0))), ((z_7 2), .inl ((z_8 2), 120, .inl (fun _ => 0))), ((z_7 3), .inl ((z_8 3), 120, .inl (fun _ => 0))), ((z_7 4), .inl ((z_8 4), 120, .inl (fun _ => 0))), ((z_7 5), .inl ((z_8 5), 120, .inl (fun _ => 0))), ((z_7 6), .inl ((z_8 6), 120, .inl (fun _ => 0))), (q_9, .inr (3, [.ref (z_11 0), .ref (z_11 1), .ref (z_11 2), .ref (z_11 3), .int 1, .ref q_5, .ref z_13])), ((z_11 0), .inl ((z_12 0), 12, .inl (fun _ => 0))), ((z_11 1), .inl ((z_12 1), 12, .inl (fun _ => 0))), ((z_11 2), .inl ((z_12 2), 120, .inl (fun _ => 0))), ((z_11 3), .inl ((z_12 3), 120, .inl (fun _ => 0))), (z_13, .inr (6, [.ref (z_14 0), .ref q_5, .ref (z_14 1), .ref (z_14 2), .ref (z_14 3), .ref (z_14 4), .ref (z_14 5), .ref (z_14 6), .int 0, .int 0])), ((z_14 0), .inl ((z_15 0), 10, .inl (fun _ => 0))), ((z_14 1), .inl ((z_15 1), 10, .inl (fun _ => 0))), ((z_14 2), .inl ((z_15 2), 10, .inl (fun _ => 0))), ((z_14 3), .inl ((z_15 3), 10, .inl (fun _ => 0))), ((z_14 4), .inl ((z_15 4), 5, .inl (fun _ => 0))), ((z_14 5), .inl ((z_15 5), 5, .inl (fun _ => 0))), ((z_14 6), .inl ((z_15 6), 1024, .inl (fun _ => 0))), (q_16, .inr (4, [.int 0, .int 0, .ref (z_18 0), .ref (z_18 1), .ref (z_18 2), .ref (z_18 3), .ref (z_18 4), .ref q_5, .ref q_9])), ((z_18 0), .inl ((z_19 0), 120, .inl (fun _ => 0))), ((z_18 1), .inl ((z_19 1), 120, .inl (fun _ => 0))), ((z_18 2), .inl ((z_19 2), 120, .inl (fun _ => 0))), ((z_18 3), .inl ((z_19 3), 120, .inl (fun _ => 0))), ((z_18 4), .inl ((z_19 4), 120, .inl (fun _ => 0))), (q_20, .inr (1, [.ref (z_22 0), .int 0, .int 0, .int 0, .ref (z_22 1), .ref (z_22 2), .ref (z_22 3), .ref (z_22 4), .ref (z_22 5), .ref (z_22 6), .ref q_5, .ref q_16])), ((z_22 0), .inl ((z_23 0), 7, .inl (fun _ => 0))), ((z_22 1), .inl ((z_23 1), 120, .inl (fun _ => 0))), ((z_22 2), .inl ((z_23 2), 120, .inl (fun _ => 0))), ((z_22 3), .inl ((z_23 3), 7, .inl (fun _ => 0))), ((z_22 4), .inl ((z_23 4), 7, .inl (fun _ => 0))), ((z_22 5), .inl ((z_23 5), 7, .inl (fun _ => 0))), ((z_22 6), .inl ((z_23 6), 7, .inl (fun _ => 0))), (q_24, .inr (0, [.int 0, .int 0, .int (-1), .ref q_1, .ref q_5, .ref q_9, .ref (z_26 0), .ref (z_26 1), .int 0, .ref (z_26 2)])), ((z_26 0), .inl ((z_27 0), 30, .inl (fun _ => 0))), ((z_26 1), .inl ((z_27 1), 30, .inr (.inl (fun _ => 0)))), ((z_26 2), .inl ((z_27 2), 74, .inr (.inl (fun _ => 0))))]) E h (fun w h => List.mem_cons_of_mem _ (List.mem_append_left _ (List.mem_append_left _ (List.mem_append_left _ (List.mem_append_left _ (List.mem_append_left _ (List.mem_append_left _ (List.mem_append_right _ h)))))))) tyX7_ok nmX7 0 rfl rfl 5 (by decide) (List.mem_of_getElem? (i := 27) rfl) rfl hnm rfl (by decide +kernel) rfl rfl (Nat.le_of_ble_eq_true rfl) rfl dX7_init_99 (fun H locs h => ?_)
  refine lv_aload_n hx hb dX7_init_102 rfl (lv_at hl 0 rfl) ?_
  refine lv_iconst (v := 3) hx hb dX7_init_103 (by decide) ?_
  refine k_newa (ty := .int) (N' := 3) (a0 := (3, .inl (fun _ => 0))) (k := 45) (z := 3284) E h (List.mem_of_getElem? (i := 28) rfl) rfl (fun _ => rfl) (by decide) (by decide) (by decide) (Nat.le_of_ble_eq_true rfl) (Nat.le_of_ble_eq_true rfl) dX7_init_104 (Nat.le_of_ble_eq_true rfl) (Nat.le_of_ble_eq_true rfl) (fun q_28 k_29 H h => ?_)
  have h : KS (dC, dI) A [(o7, .inr (7, [.ref q_1, .ref q_5, .ref q_9, .ref q_16, .ref q_20, .ref q_24, .null, .null, .int 0, .int 0, .int 0, .null, .int 0, .null, .int 0, .null])), (q_1, .inr (2, [.ref (z_3 0), .ref (z_3 1), .ref (z_3 2), .ref (z_3 3), .int 0])), ((z_3 0), .inl ((z_4 0), 8, .inl (fun _ => 16))), ((z_3 1), .inl ((z_4 1), 74, .inr (.inl (fun _ => 0)))), ((z_3 2), .inl ((z_4 2), 30, .inl (fun _ => 0))), ((z_3 3), .inl ((z_4 3), 30, .inr (.inl (fun _ => 0)))), (q_5, .inr (5, [.ref (z_7 0), .ref (z_7 1), .ref (z_7 2), .ref (z_7 3), .ref (z_7 4), .ref (z_7 5), .ref (z_7 6)])), ((z_7 0), .inl ((z_8 0), 12, .inl (fun _ => 0))), ((z_7 1), .inl ((z_8 1), 120, .inl (fun _ => 0))), ((z_7 2), .inl ((z_8 2), 120, .inl (fun _ => 0))), ((z_7 3), .inl ((z_8 3), 120, .inl (fun _ => 0))), ((z_7 4), .inl ((z_8 4), 120, .inl (fun _ => 0))), ((z_7 5), .inl ((z_8 5), 120, .inl (fun _ => 0))), ((z_7 6), .inl ((z_8 6), 120, .inl (fun _ => 0))), (q_9, .inr (3, [.ref (z_11 0), .ref (z_11 1), .ref (z_11 2), .ref (z_11 3), .int 1, .ref q_5, .ref z_13])), ((z_11 0), .inl ((z_12 0), 12, .inl (fun _ => 0))), ((z_11 1), .inl ((z_12 1), 12, .inl (fun _ => 0))), ((z_11 2), .inl ((z_12 2), 120, .inl (fun _ => 0))), ((z_11 3), .inl ((z_12 3), 120, .inl (fun _ => 0))), (z_13, .inr (6, [.ref (z_14 0), .ref q_5, .ref (z_14 1), .ref (z_14 2), .ref (z_14 3), .ref (z_14 4), .ref (z_14 5), .ref (z_14 6), .int 0, .int 0])), ((z_14 0), .inl ((z_15 0), 10, .inl (fun _ => 0))), ((z_14 1), .inl ((z_15 1), 10, .inl (fun _ => 0))), ((z_14 2), .inl ((z_15 2), 10, .inl (fun _ => 0))), ((z_14 3), .inl ((z_15 3), 10, .inl (fun _ => 0))), ((z_14 4), .inl ((z_15 4), 5, .inl (fun _ => 0))), ((z_14 5), .inl ((z_15 5), 5, .inl (fun _ => 0))), ((z_14 6), .inl ((z_15 6), 1024, .inl (fun _ => 0))), (q_16, .inr (4, [.int 0, .int 0, .ref (z_18 0), .ref (z_18 1), .ref (z_18 2), .ref (z_18 3), .ref (z_18 4), .ref q_5, .ref q_9])), ((z_18 0), .inl ((z_19 0), 120, .inl (fun _ => 0))), ((z_18 1), .inl ((z_19 1), 120, .inl (fun _ => 0))), ((z_18 2), .inl ((z_19 2), 120, .inl (fun _ => 0))), ((z_18 3), .inl ((z_19 3), 120, .inl (fun _ => 0))), ((z_18 4), .inl ((z_19 4), 120, .inl (fun _ => 0))), (q_20, .inr (1, [.ref (z_22 0), .int 0, .int 0, .int 0, .ref (z_22 1), .ref (z_22 2), .ref (z_22 3), .ref (z_22 4), .ref (z_22 5), .ref (z_22 6), .ref q_5, .ref q_16])), ((z_22 0), .inl ((z_23 0), 7, .inl (fun _ => 0))), ((z_22 1), .inl ((z_23 1), 120, .inl (fun _ => 0))), ((z_22 2), .inl ((z_23 2), 120, .inl (fun _ => 0))), ((z_22 3), .inl ((z_23 3), 7, .inl (fun _ => 0))), ((z_22 4), .inl ((z_23 4), 7, .inl (fun _ => 0))), ((z_22 5), .inl ((z_23 5), 7, .inl (fun _ => 0))), ((z_22 6), .inl ((z_23 6), 7, .inl (fun _ => 0))), (q_24, .inr (0, [.int 0, .int 0, .int (-1), .ref q_1, .ref q_5, .ref q_9, .ref (z_26 0), .ref (z_26 1), .int 0, .ref (z_26 2)])), ((z_26 0), .inl ((z_27 0), 30, .inl (fun _ => 0))), ((z_26 1), .inl ((z_27 1), 30, .inr (.inl (fun _ => 0)))), ((z_26 2), .inl ((z_27 2), 74, .inr (.inl (fun _ => 0)))), (q_28, .inl (k_29, 3, .inl (fun _ => 0)))] [((z_4 0), .int), ((z_4 1), .long), ((z_4 2), .int), ((z_4 3), .long), ((z_8 0), .int), ((z_8 1), .int), ((z_8 2), .int), ((z_8 3), .int), ((z_8 4), .int), ((z_8 5), .int), ((z_8 6), .int), ((z_12 0), .boolean), ((z_12 1), .int), ((z_12 2), .int), ((z_12 3), .int), ((z_15 0), .int), ((z_15 1), .int), ((z_15 2), .int), ((z_15 3), .int), ((z_15 4), .int), ((z_15 5), .int), ((z_15 6), .byte), ((z_19 0), .int), ((z_19 1), .int), ((z_19 2), .int), ((z_19 3), .int), ((z_19 4), .int), ((z_23 0), .int), ((z_23 1), .int), ((z_23 2), .int), ((z_23 3), .int), ((z_23 4), .int), ((z_23 5), .int), ((z_23 6), .int), ((z_27 0), .int), ((z_27 1), .long), ((z_27 2), .long), (k_29, .int)] s H _ := h
  refine k_putF (v := .ref q_28) (ty := .array .int) (ws' := [(o7, .inr (7, [.ref q_1, .ref q_5, .ref q_9, .ref q_16, .ref q_20, .ref q_24, .ref q_28, .null, .int 0, .int 0, .int 0, .null, .int 0, .null, .int 0, .null])), (q_1, .inr (2, [.ref (z_3 0), .ref (z_3 1), .ref (z_3 2), .ref (z_3 3), .int 0])), ((z_3 0), .inl ((z_4 0), 8, .inl (fun _ => 16))), ((z_3 1), .inl ((z_4 1), 74, .inr (.inl (fun _ => 0)))), ((z_3 2), .inl ((z_4 2), 30, .inl (fun _ => 0))), ((z_3 3), .inl ((z_4 3), 30, .inr (.inl (fun _ => 0)))), (q_5, .inr (5, [.ref (z_7 0), .ref (z_7 1), .ref (z_7 2), .ref (z_7 3), .ref (z_7 4), .ref (z_7 5), .ref (z_7 6)])), ((z_7 0), .inl ((z_8 0), 12, .inl (fun _ => 0))), ((z_7 1), .inl ((z_8 1), 120, .inl (fun _ => 0))), ((z_7 2), .inl ((z_8 2), 120, .inl (fun _ => 0))), ((z_7 3), .inl ((z_8 3), 120, .inl (fun _ => 0))), ((z_7 4), .inl ((z_8 4), 120, .inl (fun _ => 0))), ((z_7 5), .inl ((z_8 5), 120, .inl (fun _ => 0))), ((z_7 6), .inl ((z_8 6), 120, .inl (fun _ => 0))), (q_9, .inr (3, [.ref (z_11 0), .ref (z_11 1), .ref (z_11 2), .ref (z_11 3), .int 1, .ref q_5, .ref z_13])), ((z_11 0), .inl ((z_12 0), 12, .inl (fun _ => 0))), ((z_11 1), .inl ((z_12 1), 12, .inl (fun _ => 0))), ((z_11 2), .inl ((z_12 2), 120, .inl (fun _ => 0))), ((z_11 3), .inl ((z_12 3), 120, .inl (fun _ => 0))), (z_13, .inr (6, [.ref (z_14 0), .ref q_5, .ref (z_14 1), .ref (z_14 2), .ref (z_14 3), .ref (z_14 4), .ref (z_14 5), .ref (z_14 6), .int 0, .int 0])), ((z_14 0), .inl ((z_15 0), 10, .inl (fun _ => 0))), ((z_14 1), .inl ((z_15 1), 10, .inl (fun _ => 0))), ((z_14 2), .inl ((z_15 2), 10, .inl (fun _ => 0))), ((z_14 3), .inl ((z_15 3), 10, .inl (fun _ => 0))), ((z_14 4), .inl ((z_15 4), 5, .inl (fun _ => 0))), ((z_14 5), .inl ((z_15 5), 5, .inl (fun _ => 0))), ((z_14 6), .inl ((z_15 6), 1024, .inl (fun _ => 0))), (q_16, .inr (4, [.int 0, .int 0, .ref (z_18 0), .ref (z_18 1), .ref (z_18 2), .ref (z_18 3), .ref (z_18 4), .ref q_5, .ref q_9])), ((z_18 0), .inl ((z_19 0), 120, .inl (fun _ => 0))), ((z_18 1), .inl ((z_19 1), 120, .inl (fun _ => 0))), ((z_18 2), .inl ((z_19 2), 120, .inl (fun _ => 0))), ((z_18 3), .inl ((z_19 3), 120, .inl (fun _ => 0))), ((z_18 4), .inl ((z_19 4), 120, .inl (fun _ => 0))), (q_20, .inr (1, [.ref (z_22 0), .int 0, .int 0, .int 0, .ref (z_22 1), .ref (z_22 2), .ref (z_22 3), .ref (z_22 4), .ref (z_22 5), .ref (z_22 6), .ref q_5, .ref q_16])), ((z_22 0), .inl ((z_23 0), 7, .inl (fun _ => 0))), ((z_22 1), .inl ((z_23 1), 120, .inl (fun _ => 0))), ((z_22 2), .inl ((z_23 2), 120, .inl (fun _ => 0))), ((z_22 3), .inl ((z_23 3), 7, .inl (fun _ => 0))), ((z_22 4), .inl ((z_23 4), 7, .inl (fun _ => 0))), ((z_22 5), .inl ((z_23 5), 7, .inl (fun _ => 0))), ((z_22 6), .inl ((z_23 6), 7, .inl (fun _ => 0))), (q_24, .inr (0, [.int 0, .int 0, .int (-1), .ref q_1, .ref q_5, .ref q_9, .ref (z_26 0), .ref (z_26 1), .int 0, .ref (z_26 2)])), ((z_26 0), .inl ((z_27 0), 30, .inl (fun _ => 0))), ((z_26 1), .inl ((z_27 1), 30, .inr (.inl (fun _ => 0)))), ((z_26 2), .inl ((z_27 2), 74, .inr (.inl (fun _ => 0)))), (q_28, .inl (k_29, 3, .inl (fun _ => 0)))]) E h (fun w h => List.mem_cons_of_mem _ (List.mem_append_left _ (List.mem_append_left _ (List.mem_append_left _ (List.mem_append_left _ (List.mem_append_left _ (List.mem_append_left _ (List.mem_append_right _ h)))))))) tyX7_ok nmX7 0 rfl rfl 6 (by decide) (List.mem_of_getElem? (i := 29) rfl) rfl hnm rfl (by decide +kernel) rfl rfl (Nat.le_of_ble_eq_true rfl) rfl dX7_init_106 (fun H locs h => ?_)
  refine lv_aload_n hx hb dX7_init_109 rfl (lv_at hl 0 rfl) ?_
  refine lv_bipush (v := 16) hx hb dX7_init_110 (by decide) ?_
  refine k_newa (ty := .int) (N' := 16) (a0 := (16, .inl (fun _ => 0))) (k := 46) (z := 3300) E h (List.mem_of_getElem? (i := 28) rfl) rfl (fun _ => rfl) (by decide) (by decide) (by decide) (Nat.le_of_ble_eq_true rfl) (Nat.le_of_ble_eq_true rfl) dX7_init_112 (Nat.le_of_ble_eq_true rfl) (Nat.le_of_ble_eq_true rfl) (fun q_30 k_31 H h => ?_)
  have h : KS (dC, dI) A [(o7, .inr (7, [.ref q_1, .ref q_5, .ref q_9, .ref q_16, .ref q_20, .ref q_24, .ref q_28, .null, .int 0, .int 0, .int 0, .null, .int 0, .null, .int 0, .null])), (q_1, .inr (2, [.ref (z_3 0), .ref (z_3 1), .ref (z_3 2), .ref (z_3 3), .int 0])), ((z_3 0), .inl ((z_4 0), 8, .inl (fun _ => 16))), ((z_3 1), .inl ((z_4 1), 74, .inr (.inl (fun _ => 0)))), ((z_3 2), .inl ((z_4 2), 30, .inl (fun _ => 0))), ((z_3 3), .inl ((z_4 3), 30, .inr (.inl (fun _ => 0)))), (q_5, .inr (5, [.ref (z_7 0), .ref (z_7 1), .ref (z_7 2), .ref (z_7 3), .ref (z_7 4), .ref (z_7 5), .ref (z_7 6)])), ((z_7 0), .inl ((z_8 0), 12, .inl (fun _ => 0))), ((z_7 1), .inl ((z_8 1), 120, .inl (fun _ => 0))), ((z_7 2), .inl ((z_8 2), 120, .inl (fun _ => 0))), ((z_7 3), .inl ((z_8 3), 120, .inl (fun _ => 0))), ((z_7 4), .inl ((z_8 4), 120, .inl (fun _ => 0))), ((z_7 5), .inl ((z_8 5), 120, .inl (fun _ => 0))), ((z_7 6), .inl ((z_8 6), 120, .inl (fun _ => 0))), (q_9, .inr (3, [.ref (z_11 0), .ref (z_11 1), .ref (z_11 2), .ref (z_11 3), .int 1, .ref q_5, .ref z_13])), ((z_11 0), .inl ((z_12 0), 12, .inl (fun _ => 0))), ((z_11 1), .inl ((z_12 1), 12, .inl (fun _ => 0))), ((z_11 2), .inl ((z_12 2), 120, .inl (fun _ => 0))), ((z_11 3), .inl ((z_12 3), 120, .inl (fun _ => 0))), (z_13, .inr (6, [.ref (z_14 0), .ref q_5, .ref (z_14 1), .ref (z_14 2), .ref (z_14 3), .ref (z_14 4), .ref (z_14 5), .ref (z_14 6), .int 0, .int 0])), ((z_14 0), .inl ((z_15 0), 10, .inl (fun _ => 0))), ((z_14 1), .inl ((z_15 1), 10, .inl (fun _ => 0))), ((z_14 2), .inl ((z_15 2), 10, .inl (fun _ => 0))), ((z_14 3), .inl ((z_15 3), 10, .inl (fun _ => 0))), ((z_14 4), .inl ((z_15 4), 5, .inl (fun _ => 0))), ((z_14 5), .inl ((z_15 5), 5, .inl (fun _ => 0))), ((z_14 6), .inl ((z_15 6), 1024, .inl (fun _ => 0))), (q_16, .inr (4, [.int 0, .int 0, .ref (z_18 0), .ref (z_18 1), .ref (z_18 2), .ref (z_18 3), .ref (z_18 4), .ref q_5, .ref q_9])), ((z_18 0), .inl ((z_19 0), 120, .inl (fun _ => 0))), ((z_18 1), .inl ((z_19 1), 120, .inl (fun _ => 0))), ((z_18 2), .inl ((z_19 2), 120, .inl (fun _ => 0))), ((z_18 3), .inl ((z_19 3), 120, .inl (fun _ => 0))), ((z_18 4), .inl ((z_19 4), 120, .inl (fun _ => 0))), (q_20, .inr (1, [.ref (z_22 0), .int 0, .int 0, .int 0, .ref (z_22 1), .ref (z_22 2), .ref (z_22 3), .ref (z_22 4), .ref (z_22 5), .ref (z_22 6), .ref q_5, .ref q_16])), ((z_22 0), .inl ((z_23 0), 7, .inl (fun _ => 0))), ((z_22 1), .inl ((z_23 1), 120, .inl (fun _ => 0))), ((z_22 2), .inl ((z_23 2), 120, .inl (fun _ => 0))), ((z_22 3), .inl ((z_23 3), 7, .inl (fun _ => 0))), ((z_22 4), .inl ((z_23 4), 7, .inl (fun _ => 0))), ((z_22 5), .inl ((z_23 5), 7, .inl (fun _ => 0))), ((z_22 6), .inl ((z_23 6), 7, .inl (fun _ => 0))), (q_24, .inr (0, [.int 0, .int 0, .int (-1), .ref q_1, .ref q_5, .ref q_9, .ref (z_26 0), .ref (z_26 1), .int 0, .ref (z_26 2)])), ((z_26 0), .inl ((z_27 0), 30, .inl (fun _ => 0))), ((z_26 1), .inl ((z_27 1), 30, .inr (.inl (fun _ => 0)))), ((z_26 2), .inl ((z_27 2), 74, .inr (.inl (fun _ => 0)))), (q_28, .inl (k_29, 3, .inl (fun _ => 0))), (q_30, .inl (k_31, 16, .inl (fun _ => 0)))] [((z_4 0), .int), ((z_4 1), .long), ((z_4 2), .int), ((z_4 3), .long), ((z_8 0), .int), ((z_8 1), .int), ((z_8 2), .int), ((z_8 3), .int), ((z_8 4), .int), ((z_8 5), .int), ((z_8 6), .int), ((z_12 0), .boolean), ((z_12 1), .int), ((z_12 2), .int), ((z_12 3), .int), ((z_15 0), .int), ((z_15 1), .int), ((z_15 2), .int), ((z_15 3), .int), ((z_15 4), .int), ((z_15 5), .int), ((z_15 6), .byte), ((z_19 0), .int), ((z_19 1), .int), ((z_19 2), .int), ((z_19 3), .int), ((z_19 4), .int), ((z_23 0), .int), ((z_23 1), .int), ((z_23 2), .int), ((z_23 3), .int), ((z_23 4), .int), ((z_23 5), .int), ((z_23 6), .int), ((z_27 0), .int), ((z_27 1), .long), ((z_27 2), .long), (k_29, .int), (k_31, .int)] s H _ := h
  refine k_putF (v := .ref q_30) (ty := .array .int) (ws' := [(o7, .inr (7, [.ref q_1, .ref q_5, .ref q_9, .ref q_16, .ref q_20, .ref q_24, .ref q_28, .ref q_30, .int 0, .int 0, .int 0, .null, .int 0, .null, .int 0, .null])), (q_1, .inr (2, [.ref (z_3 0), .ref (z_3 1), .ref (z_3 2), .ref (z_3 3), .int 0])), ((z_3 0), .inl ((z_4 0), 8, .inl (fun _ => 16))), ((z_3 1), .inl ((z_4 1), 74, .inr (.inl (fun _ => 0)))), ((z_3 2), .inl ((z_4 2), 30, .inl (fun _ => 0))), ((z_3 3), .inl ((z_4 3), 30, .inr (.inl (fun _ => 0)))), (q_5, .inr (5, [.ref (z_7 0), .ref (z_7 1), .ref (z_7 2), .ref (z_7 3), .ref (z_7 4), .ref (z_7 5), .ref (z_7 6)])), ((z_7 0), .inl ((z_8 0), 12, .inl (fun _ => 0))), ((z_7 1), .inl ((z_8 1), 120, .inl (fun _ => 0))), ((z_7 2), .inl ((z_8 2), 120, .inl (fun _ => 0))), ((z_7 3), .inl ((z_8 3), 120, .inl (fun _ => 0))), ((z_7 4), .inl ((z_8 4), 120, .inl (fun _ => 0))), ((z_7 5), .inl ((z_8 5), 120, .inl (fun _ => 0))), ((z_7 6), .inl ((z_8 6), 120, .inl (fun _ => 0))), (q_9, .inr (3, [.ref (z_11 0), .ref (z_11 1), .ref (z_11 2), .ref (z_11 3), .int 1, .ref q_5, .ref z_13])), ((z_11 0), .inl ((z_12 0), 12, .inl (fun _ => 0))), ((z_11 1), .inl ((z_12 1), 12, .inl (fun _ => 0))), ((z_11 2), .inl ((z_12 2), 120, .inl (fun _ => 0))), ((z_11 3), .inl ((z_12 3), 120, .inl (fun _ => 0))), (z_13, .inr (6, [.ref (z_14 0), .ref q_5, .ref (z_14 1), .ref (z_14 2), .ref (z_14 3), .ref (z_14 4), .ref (z_14 5), .ref (z_14 6), .int 0, .int 0])), ((z_14 0), .inl ((z_15 0), 10, .inl (fun _ => 0))), ((z_14 1), .inl ((z_15 1), 10, .inl (fun _ => 0))), ((z_14 2), .inl ((z_15 2), 10, .inl (fun _ => 0))), ((z_14 3), .inl ((z_15 3), 10, .inl (fun _ => 0))), ((z_14 4), .inl ((z_15 4), 5, .inl (fun _ => 0))), ((z_14 5), .inl ((z_15 5), 5, .inl (fun _ => 0))), ((z_14 6), .inl ((z_15 6), 1024, .inl (fun _ => 0))), (q_16, .inr (4, [.int 0, .int 0, .ref (z_18 0), .ref (z_18 1), .ref (z_18 2), .ref (z_18 3), .ref (z_18 4), .ref q_5, .ref q_9])), ((z_18 0), .inl ((z_19 0), 120, .inl (fun _ => 0))), ((z_18 1), .inl ((z_19 1), 120, .inl (fun _ => 0))), ((z_18 2), .inl ((z_19 2), 120, .inl (fun _ => 0))), ((z_18 3), .inl ((z_19 3), 120, .inl (fun _ => 0))), ((z_18 4), .inl ((z_19 4), 120, .inl (fun _ => 0))), (q_20, .inr (1, [.ref (z_22 0), .int 0, .int 0, .int 0, .ref (z_22 1), .ref (z_22 2), .ref (z_22 3), .ref (z_22 4), .ref (z_22 5), .ref (z_22 6), .ref q_5, .ref q_16])), ((z_22 0), .inl ((z_23 0), 7, .inl (fun _ => 0))), ((z_22 1), .inl ((z_23 1), 120, .inl (fun _ => 0))), ((z_22 2), .inl ((z_23 2), 120, .inl (fun _ => 0))), ((z_22 3), .inl ((z_23 3), 7, .inl (fun _ => 0))), ((z_22 4), .inl ((z_23 4), 7, .inl (fun _ => 0))), ((z_22 5), .inl ((z_23 5), 7, .inl (fun _ => 0))), ((z_22 6), .inl ((z_23 6), 7, .inl (fun _ => 0))), (q_24, .inr (0, [.int 0, .int 0, .int (-1), .ref q_1, .ref q_5, .ref q_9, .ref (z_26 0), .ref (z_26 1), .int 0, .ref (z_26 2)])), ((z_26 0), .inl ((z_27 0), 30, .inl (fun _ => 0))), ((z_26 1), .inl ((z_27 1), 30, .inr (.inl (fun _ => 0)))), ((z_26 2), .inl ((z_27 2), 74, .inr (.inl (fun _ => 0)))), (q_28, .inl (k_29, 3, .inl (fun _ => 0))), (q_30, .inl (k_31, 16, .inl (fun _ => 0)))]) E h (fun w h => List.mem_cons_of_mem _ (List.mem_append_left _ (List.mem_append_left _ (List.mem_append_left _ (List.mem_append_left _ (List.mem_append_left _ (List.mem_append_left _ (List.mem_append_right _ h)))))))) tyX7_ok nmX7 0 rfl rfl 7 (by decide) (List.mem_of_getElem? (i := 30) rfl) rfl hnm rfl (by decide +kernel) rfl rfl (Nat.le_of_ble_eq_true rfl) rfl dX7_init_114 (fun H locs h => ?_)
  refine lv_aload_n hx hb dX7_init_117 rfl (lv_at hl 0 rfl) ?_
  refine lv_bipush (v := 74) hx hb dX7_init_118 (by decide) ?_
  refine W.eq (g2 := F0 m 120 ls [.int 74, .ref o7]) rfl ?_
  refine k_newa (ty := .long) (N' := 74) (a0 := (74, .inr (.inl (fun _ => 0)))) (k := 47) (z := 3374) E h (List.mem_of_getElem? (i := 31) rfl) rfl (fun _ => rfl) (by decide) (by decide) (by decide) (Nat.le_of_ble_eq_true rfl) (Nat.le_of_ble_eq_true rfl) dX7_init_120 (Nat.le_of_ble_eq_true rfl) (Nat.le_of_ble_eq_true rfl) (fun q_32 k_33 H h => ?_)
  have h : KS (dC, dI) A [(o7, .inr (7, [.ref q_1, .ref q_5, .ref q_9, .ref q_16, .ref q_20, .ref q_24, .ref q_28, .ref q_30, .int 0, .int 0, .int 0, .null, .int 0, .null, .int 0, .null])), (q_1, .inr (2, [.ref (z_3 0), .ref (z_3 1), .ref (z_3 2), .ref (z_3 3), .int 0])), ((z_3 0), .inl ((z_4 0), 8, .inl (fun _ => 16))), ((z_3 1), .inl ((z_4 1), 74, .inr (.inl (fun _ => 0)))), ((z_3 2), .inl ((z_4 2), 30, .inl (fun _ => 0))), ((z_3 3), .inl ((z_4 3), 30, .inr (.inl (fun _ => 0)))), (q_5, .inr (5, [.ref (z_7 0), .ref (z_7 1), .ref (z_7 2), .ref (z_7 3), .ref (z_7 4), .ref (z_7 5), .ref (z_7 6)])), ((z_7 0), .inl ((z_8 0), 12, .inl (fun _ => 0))), ((z_7 1), .inl ((z_8 1), 120, .inl (fun _ => 0))), ((z_7 2), .inl ((z_8 2), 120, .inl (fun _ => 0))), ((z_7 3), .inl ((z_8 3), 120, .inl (fun _ => 0))), ((z_7 4), .inl ((z_8 4), 120, .inl (fun _ => 0))), ((z_7 5), .inl ((z_8 5), 120, .inl (fun _ => 0))), ((z_7 6), .inl ((z_8 6), 120, .inl (fun _ => 0))), (q_9, .inr (3, [.ref (z_11 0), .ref (z_11 1), .ref (z_11 2), .ref (z_11 3), .int 1, .ref q_5, .ref z_13])), ((z_11 0), .inl ((z_12 0), 12, .inl (fun _ => 0))), ((z_11 1), .inl ((z_12 1), 12, .inl (fun _ => 0))), ((z_11 2), .inl ((z_12 2), 120, .inl (fun _ => 0))), ((z_11 3), .inl ((z_12 3), 120, .inl (fun _ => 0))), (z_13, .inr (6, [.ref (z_14 0), .ref q_5, .ref (z_14 1), .ref (z_14 2), .ref (z_14 3), .ref (z_14 4), .ref (z_14 5), .ref (z_14 6), .int 0, .int 0])), ((z_14 0), .inl ((z_15 0), 10, .inl (fun _ => 0))), ((z_14 1), .inl ((z_15 1), 10, .inl (fun _ => 0))), ((z_14 2), .inl ((z_15 2), 10, .inl (fun _ => 0))), ((z_14 3), .inl ((z_15 3), 10, .inl (fun _ => 0))), ((z_14 4), .inl ((z_15 4), 5, .inl (fun _ => 0))), ((z_14 5), .inl ((z_15 5), 5, .inl (fun _ => 0))), ((z_14 6), .inl ((z_15 6), 1024, .inl (fun _ => 0))), (q_16, .inr (4, [.int 0, .int 0, .ref (z_18 0), .ref (z_18 1), .ref (z_18 2), .ref (z_18 3), .ref (z_18 4), .ref q_5, .ref q_9])), ((z_18 0), .inl ((z_19 0), 120, .inl (fun _ => 0))), ((z_18 1), .inl ((z_19 1), 120, .inl (fun _ => 0))), ((z_18 2), .inl ((z_19 2), 120, .inl (fun _ => 0))), ((z_18 3), .inl ((z_19 3), 120, .inl (fun _ => 0))), ((z_18 4), .inl ((z_19 4), 120, .inl (fun _ => 0))), (q_20, .inr (1, [.ref (z_22 0), .int 0, .int 0, .int 0, .ref (z_22 1), .ref (z_22 2), .ref (z_22 3), .ref (z_22 4), .ref (z_22 5), .ref (z_22 6), .ref q_5, .ref q_16])), ((z_22 0), .inl ((z_23 0), 7, .inl (fun _ => 0))), ((z_22 1), .inl ((z_23 1), 120, .inl (fun _ => 0))), ((z_22 2), .inl ((z_23 2), 120, .inl (fun _ => 0))), ((z_22 3), .inl ((z_23 3), 7, .inl (fun _ => 0))), ((z_22 4), .inl ((z_23 4), 7, .inl (fun _ => 0))), ((z_22 5), .inl ((z_23 5), 7, .inl (fun _ => 0))), ((z_22 6), .inl ((z_23 6), 7, .inl (fun _ => 0))), (q_24, .inr (0, [.int 0, .int 0, .int (-1), .ref q_1, .ref q_5, .ref q_9, .ref (z_26 0), .ref (z_26 1), .int 0, .ref (z_26 2)])), ((z_26 0), .inl ((z_27 0), 30, .inl (fun _ => 0))), ((z_26 1), .inl ((z_27 1), 30, .inr (.inl (fun _ => 0)))), ((z_26 2), .inl ((z_27 2), 74, .inr (.inl (fun _ => 0)))), (q_28, .inl (k_29, 3, .inl (fun _ => 0))), (q_30, .inl (k_31, 16, .inl (fun _ => 0))), (q_32, .inl (k_33, 74, .inr (.inl (fun _ => 0))))] [((z_4 0), .int), ((z_4 1), .long), ((z_4 2), .int), ((z_4 3), .long), ((z_8 0), .int), ((z_8 1), .int), ((z_8 2), .int), ((z_8 3), .int), ((z_8 4), .int), ((z_8 5), .int), ((z_8 6), .int), ((z_12 0), .boolean), ((z_12 1), .int), ((z_12 2), .int), ((z_12 3), .int), ((z_15 0), .int), ((z_15 1), .int), ((z_15 2), .int), ((z_15 3), .int), ((z_15 4), .int), ((z_15 5), .int), ((z_15 6), .byte), ((z_19 0), .int), ((z_19 1), .int), ((z_19 2), .int), ((z_19 3), .int), ((z_19 4), .int), ((z_23 0), .int), ((z_23 1), .int), ((z_23 2), .int), ((z_23 3), .int), ((z_23 4), .int), ((z_23 5), .int), ((z_23 6), .int), ((z_27 0), .int), ((z_27 1), .long), ((z_27 2), .long), (k_29, .int), (k_31, .int), (k_33, .long)] s H _ := h
  refine k_putF (v := .ref q_32) (ty := .array .long) (ws' := [(o7, .inr (7, [.ref q_1, .ref q_5, .ref q_9, .ref q_16, .ref q_20, .ref q_24, .ref q_28, .ref q_30, .int 0, .int 0, .int 0, .ref q_32, .int 0, .null, .int 0, .null])), (q_1, .inr (2, [.ref (z_3 0), .ref (z_3 1), .ref (z_3 2), .ref (z_3 3), .int 0])), ((z_3 0), .inl ((z_4 0), 8, .inl (fun _ => 16))), ((z_3 1), .inl ((z_4 1), 74, .inr (.inl (fun _ => 0)))), ((z_3 2), .inl ((z_4 2), 30, .inl (fun _ => 0))), ((z_3 3), .inl ((z_4 3), 30, .inr (.inl (fun _ => 0)))), (q_5, .inr (5, [.ref (z_7 0), .ref (z_7 1), .ref (z_7 2), .ref (z_7 3), .ref (z_7 4), .ref (z_7 5), .ref (z_7 6)])), ((z_7 0), .inl ((z_8 0), 12, .inl (fun _ => 0))), ((z_7 1), .inl ((z_8 1), 120, .inl (fun _ => 0))), ((z_7 2), .inl ((z_8 2), 120, .inl (fun _ => 0))), ((z_7 3), .inl ((z_8 3), 120, .inl (fun _ => 0))), ((z_7 4), .inl ((z_8 4), 120, .inl (fun _ => 0))), ((z_7 5), .inl ((z_8 5), 120, .inl (fun _ => 0))), ((z_7 6), .inl ((z_8 6), 120, .inl (fun _ => 0))), (q_9, .inr (3, [.ref (z_11 0), .ref (z_11 1), .ref (z_11 2), .ref (z_11 3), .int 1, .ref q_5, .ref z_13])), ((z_11 0), .inl ((z_12 0), 12, .inl (fun _ => 0))), ((z_11 1), .inl ((z_12 1), 12, .inl (fun _ => 0))), ((z_11 2), .inl ((z_12 2), 120, .inl (fun _ => 0))), ((z_11 3), .inl ((z_12 3), 120, .inl (fun _ => 0))), (z_13, .inr (6, [.ref (z_14 0), .ref q_5, .ref (z_14 1), .ref (z_14 2), .ref (z_14 3), .ref (z_14 4), .ref (z_14 5), .ref (z_14 6), .int 0, .int 0])), ((z_14 0), .inl ((z_15 0), 10, .inl (fun _ => 0))), ((z_14 1), .inl ((z_15 1), 10, .inl (fun _ => 0))), ((z_14 2), .inl ((z_15 2), 10, .inl (fun _ => 0))), ((z_14 3), .inl ((z_15 3), 10, .inl (fun _ => 0))), ((z_14 4), .inl ((z_15 4), 5, .inl (fun _ => 0))), ((z_14 5), .inl ((z_15 5), 5, .inl (fun _ => 0))), ((z_14 6), .inl ((z_15 6), 1024, .inl (fun _ => 0))), (q_16, .inr (4, [.int 0, .int 0, .ref (z_18 0), .ref (z_18 1), .ref (z_18 2), .ref (z_18 3), .ref (z_18 4), .ref q_5, .ref q_9])), ((z_18 0), .inl ((z_19 0), 120, .inl (fun _ => 0))), ((z_18 1), .inl ((z_19 1), 120, .inl (fun _ => 0))), ((z_18 2), .inl ((z_19 2), 120, .inl (fun _ => 0))), ((z_18 3), .inl ((z_19 3), 120, .inl (fun _ => 0))), ((z_18 4), .inl ((z_19 4), 120, .inl (fun _ => 0))), (q_20, .inr (1, [.ref (z_22 0), .int 0, .int 0, .int 0, .ref (z_22 1), .ref (z_22 2), .ref (z_22 3), .ref (z_22 4), .ref (z_22 5), .ref (z_22 6), .ref q_5, .ref q_16])), ((z_22 0), .inl ((z_23 0), 7, .inl (fun _ => 0))), ((z_22 1), .inl ((z_23 1), 120, .inl (fun _ => 0))), ((z_22 2), .inl ((z_23 2), 120, .inl (fun _ => 0))), ((z_22 3), .inl ((z_23 3), 7, .inl (fun _ => 0))), ((z_22 4), .inl ((z_23 4), 7, .inl (fun _ => 0))), ((z_22 5), .inl ((z_23 5), 7, .inl (fun _ => 0))), ((z_22 6), .inl ((z_23 6), 7, .inl (fun _ => 0))), (q_24, .inr (0, [.int 0, .int 0, .int (-1), .ref q_1, .ref q_5, .ref q_9, .ref (z_26 0), .ref (z_26 1), .int 0, .ref (z_26 2)])), ((z_26 0), .inl ((z_27 0), 30, .inl (fun _ => 0))), ((z_26 1), .inl ((z_27 1), 30, .inr (.inl (fun _ => 0)))), ((z_26 2), .inl ((z_27 2), 74, .inr (.inl (fun _ => 0)))), (q_28, .inl (k_29, 3, .inl (fun _ => 0))), (q_30, .inl (k_31, 16, .inl (fun _ => 0))), (q_32, .inl (k_33, 74, .inr (.inl (fun _ => 0))))]) E h (fun w h => List.mem_cons_of_mem _ (List.mem_append_left _ (List.mem_append_left _ (List.mem_append_left _ (List.mem_append_left _ (List.mem_append_left _ (List.mem_append_left _ (List.mem_append_right _ h)))))))) tyX7_ok nmX7 0 rfl rfl 11 (by decide) (List.mem_of_getElem? (i := 32) rfl) rfl hnm rfl (by decide +kernel) rfl rfl (Nat.le_of_ble_eq_true rfl) rfl dX7_init_122 (fun H locs h => ?_)
  refine lv_aload_n hx hb dX7_init_125 rfl (lv_at hl 0 rfl) ?_
  refine lv_bipush (v := 64) hx hb dX7_init_126 (by decide) ?_
  refine k_newa (ty := .short) (N' := 64) (a0 := (64, .inl (fun _ => 0))) (k := 48) (z := 3438) E h (List.mem_of_getElem? (i := 33) rfl) rfl (fun _ => rfl) (by decide) (by decide) (by decide) (Nat.le_of_ble_eq_true rfl) (Nat.le_of_ble_eq_true rfl) dX7_init_128 (Nat.le_of_ble_eq_true rfl) (Nat.le_of_ble_eq_true rfl) (fun q_34 k_35 H h => ?_)
  have h : KS (dC, dI) A [(o7, .inr (7, [.ref q_1, .ref q_5, .ref q_9, .ref q_16, .ref q_20, .ref q_24, .ref q_28, .ref q_30, .int 0, .int 0, .int 0, .ref q_32, .int 0, .null, .int 0, .null])), (q_1, .inr (2, [.ref (z_3 0), .ref (z_3 1), .ref (z_3 2), .ref (z_3 3), .int 0])), ((z_3 0), .inl ((z_4 0), 8, .inl (fun _ => 16))), ((z_3 1), .inl ((z_4 1), 74, .inr (.inl (fun _ => 0)))), ((z_3 2), .inl ((z_4 2), 30, .inl (fun _ => 0))), ((z_3 3), .inl ((z_4 3), 30, .inr (.inl (fun _ => 0)))), (q_5, .inr (5, [.ref (z_7 0), .ref (z_7 1), .ref (z_7 2), .ref (z_7 3), .ref (z_7 4), .ref (z_7 5), .ref (z_7 6)])), ((z_7 0), .inl ((z_8 0), 12, .inl (fun _ => 0))), ((z_7 1), .inl ((z_8 1), 120, .inl (fun _ => 0))), ((z_7 2), .inl ((z_8 2), 120, .inl (fun _ => 0))), ((z_7 3), .inl ((z_8 3), 120, .inl (fun _ => 0))), ((z_7 4), .inl ((z_8 4), 120, .inl (fun _ => 0))), ((z_7 5), .inl ((z_8 5), 120, .inl (fun _ => 0))), ((z_7 6), .inl ((z_8 6), 120, .inl (fun _ => 0))), (q_9, .inr (3, [.ref (z_11 0), .ref (z_11 1), .ref (z_11 2), .ref (z_11 3), .int 1, .ref q_5, .ref z_13])), ((z_11 0), .inl ((z_12 0), 12, .inl (fun _ => 0))), ((z_11 1), .inl ((z_12 1), 12, .inl (fun _ => 0))), ((z_11 2), .inl ((z_12 2), 120, .inl (fun _ => 0))), ((z_11 3), .inl ((z_12 3), 120, .inl (fun _ => 0))), (z_13, .inr (6, [.ref (z_14 0), .ref q_5, .ref (z_14 1), .ref (z_14 2), .ref (z_14 3), .ref (z_14 4), .ref (z_14 5), .ref (z_14 6), .int 0, .int 0])), ((z_14 0), .inl ((z_15 0), 10, .inl (fun _ => 0))), ((z_14 1), .inl ((z_15 1), 10, .inl (fun _ => 0))), ((z_14 2), .inl ((z_15 2), 10, .inl (fun _ => 0))), ((z_14 3), .inl ((z_15 3), 10, .inl (fun _ => 0))), ((z_14 4), .inl ((z_15 4), 5, .inl (fun _ => 0))), ((z_14 5), .inl ((z_15 5), 5, .inl (fun _ => 0))), ((z_14 6), .inl ((z_15 6), 1024, .inl (fun _ => 0))), (q_16, .inr (4, [.int 0, .int 0, .ref (z_18 0), .ref (z_18 1), .ref (z_18 2), .ref (z_18 3), .ref (z_18 4), .ref q_5, .ref q_9])), ((z_18 0), .inl ((z_19 0), 120, .inl (fun _ => 0))), ((z_18 1), .inl ((z_19 1), 120, .inl (fun _ => 0))), ((z_18 2), .inl ((z_19 2), 120, .inl (fun _ => 0))), ((z_18 3), .inl ((z_19 3), 120, .inl (fun _ => 0))), ((z_18 4), .inl ((z_19 4), 120, .inl (fun _ => 0))), (q_20, .inr (1, [.ref (z_22 0), .int 0, .int 0, .int 0, .ref (z_22 1), .ref (z_22 2), .ref (z_22 3), .ref (z_22 4), .ref (z_22 5), .ref (z_22 6), .ref q_5, .ref q_16])), ((z_22 0), .inl ((z_23 0), 7, .inl (fun _ => 0))), ((z_22 1), .inl ((z_23 1), 120, .inl (fun _ => 0))), ((z_22 2), .inl ((z_23 2), 120, .inl (fun _ => 0))), ((z_22 3), .inl ((z_23 3), 7, .inl (fun _ => 0))), ((z_22 4), .inl ((z_23 4), 7, .inl (fun _ => 0))), ((z_22 5), .inl ((z_23 5), 7, .inl (fun _ => 0))), ((z_22 6), .inl ((z_23 6), 7, .inl (fun _ => 0))), (q_24, .inr (0, [.int 0, .int 0, .int (-1), .ref q_1, .ref q_5, .ref q_9, .ref (z_26 0), .ref (z_26 1), .int 0, .ref (z_26 2)])), ((z_26 0), .inl ((z_27 0), 30, .inl (fun _ => 0))), ((z_26 1), .inl ((z_27 1), 30, .inr (.inl (fun _ => 0)))), ((z_26 2), .inl ((z_27 2), 74, .inr (.inl (fun _ => 0)))), (q_28, .inl (k_29, 3, .inl (fun _ => 0))), (q_30, .inl (k_31, 16, .inl (fun _ => 0))), (q_32, .inl (k_33, 74, .inr (.inl (fun _ => 0)))), (q_34, .inl (k_35, 64, .inl (fun _ => 0)))] [((z_4 0), .int), ((z_4 1), .long), ((z_4 2), .int), ((z_4 3), .long), ((z_8 0), .int), ((z_8 1), .int), ((z_8 2), .int), ((z_8 3), .int), ((z_8 4), .int), ((z_8 5), .int), ((z_8 6), .int), ((z_12 0), .boolean), ((z_12 1), .int), ((z_12 2), .int), ((z_12 3), .int), ((z_15 0), .int), ((z_15 1), .int), ((z_15 2), .int), ((z_15 3), .int), ((z_15 4), .int), ((z_15 5), .int), ((z_15 6), .byte), ((z_19 0), .int), ((z_19 1), .int), ((z_19 2), .int), ((z_19 3), .int), ((z_19 4), .int), ((z_23 0), .int), ((z_23 1), .int), ((z_23 2), .int), ((z_23 3), .int), ((z_23 4), .int), ((z_23 5), .int), ((z_23 6), .int), ((z_27 0), .int), ((z_27 1), .long), ((z_27 2), .long), (k_29, .int), (k_31, .int), (k_33, .long), (k_35, .short)] s H _ := h
  refine k_putF (v := .ref q_34) (ty := .array .short) (ws' := [(o7, .inr (7, [.ref q_1, .ref q_5, .ref q_9, .ref q_16, .ref q_20, .ref q_24, .ref q_28, .ref q_30, .int 0, .int 0, .int 0, .ref q_32, .int 0, .ref q_34, .int 0, .null])), (q_1, .inr (2, [.ref (z_3 0), .ref (z_3 1), .ref (z_3 2), .ref (z_3 3), .int 0])), ((z_3 0), .inl ((z_4 0), 8, .inl (fun _ => 16))), ((z_3 1), .inl ((z_4 1), 74, .inr (.inl (fun _ => 0)))), ((z_3 2), .inl ((z_4 2), 30, .inl (fun _ => 0))), ((z_3 3), .inl ((z_4 3), 30, .inr (.inl (fun _ => 0)))), (q_5, .inr (5, [.ref (z_7 0), .ref (z_7 1), .ref (z_7 2), .ref (z_7 3), .ref (z_7 4), .ref (z_7 5), .ref (z_7 6)])), ((z_7 0), .inl ((z_8 0), 12, .inl (fun _ => 0))), ((z_7 1), .inl ((z_8 1), 120, .inl (fun _ => 0))), ((z_7 2), .inl ((z_8 2), 120, .inl (fun _ => 0))), ((z_7 3), .inl ((z_8 3), 120, .inl (fun _ => 0))), ((z_7 4), .inl ((z_8 4), 120, .inl (fun _ => 0))), ((z_7 5), .inl ((z_8 5), 120, .inl (fun _ => 0))), ((z_7 6), .inl ((z_8 6), 120, .inl (fun _ => 0))), (q_9, .inr (3, [.ref (z_11 0), .ref (z_11 1), .ref (z_11 2), .ref (z_11 3), .int 1, .ref q_5, .ref z_13])), ((z_11 0), .inl ((z_12 0), 12, .inl (fun _ => 0))), ((z_11 1), .inl ((z_12 1), 12, .inl (fun _ => 0))), ((z_11 2), .inl ((z_12 2), 120, .inl (fun _ => 0))), ((z_11 3), .inl ((z_12 3), 120, .inl (fun _ => 0))), (z_13, .inr (6, [.ref (z_14 0), .ref q_5, .ref (z_14 1), .ref (z_14 2), .ref (z_14 3), .ref (z_14 4), .ref (z_14 5), .ref (z_14 6), .int 0, .int 0])), ((z_14 0), .inl ((z_15 0), 10, .inl (fun _ => 0))), ((z_14 1), .inl ((z_15 1), 10, .inl (fun _ => 0))), ((z_14 2), .inl ((z_15 2), 10, .inl (fun _ => 0))), ((z_14 3), .inl ((z_15 3), 10, .inl (fun _ => 0))), ((z_14 4), .inl ((z_15 4), 5, .inl (fun _ => 0))), ((z_14 5), .inl ((z_15 5), 5, .inl (fun _ => 0))), ((z_14 6), .inl ((z_15 6), 1024, .inl (fun _ => 0))), (q_16, .inr (4, [.int 0, .int 0, .ref (z_18 0), .ref (z_18 1), .ref (z_18 2), .ref (z_18 3), .ref (z_18 4), .ref q_5, .ref q_9])), ((z_18 0), .inl ((z_19 0), 120, .inl (fun _ => 0))), ((z_18 1), .inl ((z_19 1), 120, .inl (fun _ => 0))), ((z_18 2), .inl ((z_19 2), 120, .inl (fun _ => 0))), ((z_18 3), .inl ((z_19 3), 120, .inl (fun _ => 0))), ((z_18 4), .inl ((z_19 4), 120, .inl (fun _ => 0))), (q_20, .inr (1, [.ref (z_22 0), .int 0, .int 0, .int 0, .ref (z_22 1), .ref (z_22 2), .ref (z_22 3), .ref (z_22 4), .ref (z_22 5), .ref (z_22 6), .ref q_5, .ref q_16])), ((z_22 0), .inl ((z_23 0), 7, .inl (fun _ => 0))), ((z_22 1), .inl ((z_23 1), 120, .inl (fun _ => 0))), ((z_22 2), .inl ((z_23 2), 120, .inl (fun _ => 0))), ((z_22 3), .inl ((z_23 3), 7, .inl (fun _ => 0))), ((z_22 4), .inl ((z_23 4), 7, .inl (fun _ => 0))), ((z_22 5), .inl ((z_23 5), 7, .inl (fun _ => 0))), ((z_22 6), .inl ((z_23 6), 7, .inl (fun _ => 0))), (q_24, .inr (0, [.int 0, .int 0, .int (-1), .ref q_1, .ref q_5, .ref q_9, .ref (z_26 0), .ref (z_26 1), .int 0, .ref (z_26 2)])), ((z_26 0), .inl ((z_27 0), 30, .inl (fun _ => 0))), ((z_26 1), .inl ((z_27 1), 30, .inr (.inl (fun _ => 0)))), ((z_26 2), .inl ((z_27 2), 74, .inr (.inl (fun _ => 0)))), (q_28, .inl (k_29, 3, .inl (fun _ => 0))), (q_30, .inl (k_31, 16, .inl (fun _ => 0))), (q_32, .inl (k_33, 74, .inr (.inl (fun _ => 0)))), (q_34, .inl (k_35, 64, .inl (fun _ => 0)))]) E h (fun w h => List.mem_cons_of_mem _ (List.mem_append_left _ (List.mem_append_left _ (List.mem_append_left _ (List.mem_append_left _ (List.mem_append_left _ (List.mem_append_left _ (List.mem_append_right _ h)))))))) tyX7_ok nmX7 0 rfl rfl 13 (by decide) (List.mem_of_getElem? (i := 34) rfl) rfl hnm rfl (by decide +kernel) rfl rfl (Nat.le_of_ble_eq_true rfl) rfl dX7_init_130 (fun H locs h => ?_)
  refine lv_aload_n hx hb dX7_init_133 rfl (lv_at hl 0 rfl) ?_
  refine lv_bipush (v := 8) hx hb dX7_init_134 (by decide) ?_
  refine k_newa (ty := .int) (N' := 8) (a0 := (8, .inl (fun _ => 0))) (k := 49) (z := 3446) E h (List.mem_of_getElem? (i := 28) rfl) rfl (fun _ => rfl) (by decide) (by decide) (by decide) (Nat.le_of_ble_eq_true rfl) (Nat.le_of_ble_eq_true rfl) dX7_init_136 (Nat.le_of_ble_eq_true rfl) (Nat.le_of_ble_eq_true rfl) (fun q_36 k_37 H h => ?_)
  have h : KS (dC, dI) A [(o7, .inr (7, [.ref q_1, .ref q_5, .ref q_9, .ref q_16, .ref q_20, .ref q_24, .ref q_28, .ref q_30, .int 0, .int 0, .int 0, .ref q_32, .int 0, .ref q_34, .int 0, .null])), (q_1, .inr (2, [.ref (z_3 0), .ref (z_3 1), .ref (z_3 2), .ref (z_3 3), .int 0])), ((z_3 0), .inl ((z_4 0), 8, .inl (fun _ => 16))), ((z_3 1), .inl ((z_4 1), 74, .inr (.inl (fun _ => 0)))), ((z_3 2), .inl ((z_4 2), 30, .inl (fun _ => 0))), ((z_3 3), .inl ((z_4 3), 30, .inr (.inl (fun _ => 0)))), (q_5, .inr (5, [.ref (z_7 0), .ref (z_7 1), .ref (z_7 2), .ref (z_7 3), .ref (z_7 4), .ref (z_7 5), .ref (z_7 6)])), ((z_7 0), .inl ((z_8 0), 12, .inl (fun _ => 0))), ((z_7 1), .inl ((z_8 1), 120, .inl (fun _ => 0))), ((z_7 2), .inl ((z_8 2), 120, .inl (fun _ => 0))), ((z_7 3), .inl ((z_8 3), 120, .inl (fun _ => 0))), ((z_7 4), .inl ((z_8 4), 120, .inl (fun _ => 0))), ((z_7 5), .inl ((z_8 5), 120, .inl (fun _ => 0))), ((z_7 6), .inl ((z_8 6), 120, .inl (fun _ => 0))), (q_9, .inr (3, [.ref (z_11 0), .ref (z_11 1), .ref (z_11 2), .ref (z_11 3), .int 1, .ref q_5, .ref z_13])), ((z_11 0), .inl ((z_12 0), 12, .inl (fun _ => 0))), ((z_11 1), .inl ((z_12 1), 12, .inl (fun _ => 0))), ((z_11 2), .inl ((z_12 2), 120, .inl (fun _ => 0))), ((z_11 3), .inl ((z_12 3), 120, .inl (fun _ => 0))), (z_13, .inr (6, [.ref (z_14 0), .ref q_5, .ref (z_14 1), .ref (z_14 2), .ref (z_14 3), .ref (z_14 4), .ref (z_14 5), .ref (z_14 6), .int 0, .int 0])), ((z_14 0), .inl ((z_15 0), 10, .inl (fun _ => 0))), ((z_14 1), .inl ((z_15 1), 10, .inl (fun _ => 0))), ((z_14 2), .inl ((z_15 2), 10, .inl (fun _ => 0))), ((z_14 3), .inl ((z_15 3), 10, .inl (fun _ => 0))), ((z_14 4), .inl ((z_15 4), 5, .inl (fun _ => 0))), ((z_14 5), .inl ((z_15 5), 5, .inl (fun _ => 0))), ((z_14 6), .inl ((z_15 6), 1024, .inl (fun _ => 0))), (q_16, .inr (4, [.int 0, .int 0, .ref (z_18 0), .ref (z_18 1), .ref (z_18 2), .ref (z_18 3), .ref (z_18 4), .ref q_5, .ref q_9])), ((z_18 0), .inl ((z_19 0), 120, .inl (fun _ => 0))), ((z_18 1), .inl ((z_19 1), 120, .inl (fun _ => 0))), ((z_18 2), .inl ((z_19 2), 120, .inl (fun _ => 0))), ((z_18 3), .inl ((z_19 3), 120, .inl (fun _ => 0))), ((z_18 4), .inl ((z_19 4), 120, .inl (fun _ => 0))), (q_20, .inr (1, [.ref (z_22 0), .int 0, .int 0, .int 0, .ref (z_22 1), .ref (z_22 2), .ref (z_22 3), .ref (z_22 4), .ref (z_22 5), .ref (z_22 6), .ref q_5, .ref q_16])), ((z_22 0), .inl ((z_23 0), 7, .inl (fun _ => 0))), ((z_22 1), .inl ((z_23 1), 120, .inl (fun _ => 0))), ((z_22 2), .inl ((z_23 2), 120, .inl (fun _ => 0))), ((z_22 3), .inl ((z_23 3), 7, .inl (fun _ => 0))), ((z_22 4), .inl ((z_23 4), 7, .inl (fun _ => 0))), ((z_22 5), .inl ((z_23 5), 7, .inl (fun _ => 0))), ((z_22 6), .inl ((z_23 6), 7, .inl (fun _ => 0))), (q_24, .inr (0, [.int 0, .int 0, .int (-1), .ref q_1, .ref q_5, .ref q_9, .ref (z_26 0), .ref (z_26 1), .int 0, .ref (z_26 2)])), ((z_26 0), .inl ((z_27 0), 30, .inl (fun _ => 0))), ((z_26 1), .inl ((z_27 1), 30, .inr (.inl (fun _ => 0)))), ((z_26 2), .inl ((z_27 2), 74, .inr (.inl (fun _ => 0)))), (q_28, .inl (k_29, 3, .inl (fun _ => 0))), (q_30, .inl (k_31, 16, .inl (fun _ => 0))), (q_32, .inl (k_33, 74, .inr (.inl (fun _ => 0)))), (q_34, .inl (k_35, 64, .inl (fun _ => 0))), (q_36, .inl (k_37, 8, .inl (fun _ => 0)))] [((z_4 0), .int), ((z_4 1), .long), ((z_4 2), .int), ((z_4 3), .long), ((z_8 0), .int), ((z_8 1), .int), ((z_8 2), .int), ((z_8 3), .int), ((z_8 4), .int), ((z_8 5), .int), ((z_8 6), .int), ((z_12 0), .boolean), ((z_12 1), .int), ((z_12 2), .int), ((z_12 3), .int), ((z_15 0), .int), ((z_15 1), .int), ((z_15 2), .int), ((z_15 3), .int), ((z_15 4), .int), ((z_15 5), .int), ((z_15 6), .byte), ((z_19 0), .int), ((z_19 1), .int), ((z_19 2), .int), ((z_19 3), .int), ((z_19 4), .int), ((z_23 0), .int), ((z_23 1), .int), ((z_23 2), .int), ((z_23 3), .int), ((z_23 4), .int), ((z_23 5), .int), ((z_23 6), .int), ((z_27 0), .int), ((z_27 1), .long), ((z_27 2), .long), (k_29, .int), (k_31, .int), (k_33, .long), (k_35, .short), (k_37, .int)] s H _ := h
  refine k_putF (v := .ref q_36) (ty := .array .int) (ws' := [(o7, .inr (7, [.ref q_1, .ref q_5, .ref q_9, .ref q_16, .ref q_20, .ref q_24, .ref q_28, .ref q_30, .int 0, .int 0, .int 0, .ref q_32, .int 0, .ref q_34, .int 0, .ref q_36])), (q_1, .inr (2, [.ref (z_3 0), .ref (z_3 1), .ref (z_3 2), .ref (z_3 3), .int 0])), ((z_3 0), .inl ((z_4 0), 8, .inl (fun _ => 16))), ((z_3 1), .inl ((z_4 1), 74, .inr (.inl (fun _ => 0)))), ((z_3 2), .inl ((z_4 2), 30, .inl (fun _ => 0))), ((z_3 3), .inl ((z_4 3), 30, .inr (.inl (fun _ => 0)))), (q_5, .inr (5, [.ref (z_7 0), .ref (z_7 1), .ref (z_7 2), .ref (z_7 3), .ref (z_7 4), .ref (z_7 5), .ref (z_7 6)])), ((z_7 0), .inl ((z_8 0), 12, .inl (fun _ => 0))), ((z_7 1), .inl ((z_8 1), 120, .inl (fun _ => 0))), ((z_7 2), .inl ((z_8 2), 120, .inl (fun _ => 0))), ((z_7 3), .inl ((z_8 3), 120, .inl (fun _ => 0))), ((z_7 4), .inl ((z_8 4), 120, .inl (fun _ => 0))), ((z_7 5), .inl ((z_8 5), 120, .inl (fun _ => 0))), ((z_7 6), .inl ((z_8 6), 120, .inl (fun _ => 0))), (q_9, .inr (3, [.ref (z_11 0), .ref (z_11 1), .ref (z_11 2), .ref (z_11 3), .int 1, .ref q_5, .ref z_13])), ((z_11 0), .inl ((z_12 0), 12, .inl (fun _ => 0))), ((z_11 1), .inl ((z_12 1), 12, .inl (fun _ => 0))), ((z_11 2), .inl ((z_12 2), 120, .inl (fun _ => 0))), ((z_11 3), .inl ((z_12 3), 120, .inl (fun _ => 0))), (z_13, .inr (6, [.ref (z_14 0), .ref q_5, .ref (z_14 1), .ref (z_14 2), .ref (z_14 3), .ref (z_14 4), .ref (z_14 5), .ref (z_14 6), .int 0, .int 0])), ((z_14 0), .inl ((z_15 0), 10, .inl (fun _ => 0))), ((z_14 1), .inl ((z_15 1), 10, .inl (fun _ => 0))), ((z_14 2), .inl ((z_15 2), 10, .inl (fun _ => 0))), ((z_14 3), .inl ((z_15 3), 10, .inl (fun _ => 0))), ((z_14 4), .inl ((z_15 4), 5, .inl (fun _ => 0))), ((z_14 5), .inl ((z_15 5), 5, .inl (fun _ => 0))), ((z_14 6), .inl ((z_15 6), 1024, .inl (fun _ => 0))), (q_16, .inr (4, [.int 0, .int 0, .ref (z_18 0), .ref (z_18 1), .ref (z_18 2), .ref (z_18 3), .ref (z_18 4), .ref q_5, .ref q_9])), ((z_18 0), .inl ((z_19 0), 120, .inl (fun _ => 0))), ((z_18 1), .inl ((z_19 1), 120, .inl (fun _ => 0))), ((z_18 2), .inl ((z_19 2), 120, .inl (fun _ => 0))), ((z_18 3), .inl ((z_19 3), 120, .inl (fun _ => 0))), ((z_18 4), .inl ((z_19 4), 120, .inl (fun _ => 0))), (q_20, .inr (1, [.ref (z_22 0), .int 0, .int 0, .int 0, .ref (z_22 1), .ref (z_22 2), .ref (z_22 3), .ref (z_22 4), .ref (z_22 5), .ref (z_22 6), .ref q_5, .ref q_16])), ((z_22 0), .inl ((z_23 0), 7, .inl (fun _ => 0))), ((z_22 1), .inl ((z_23 1), 120, .inl (fun _ => 0))), ((z_22 2), .inl ((z_23 2), 120, .inl (fun _ => 0))), ((z_22 3), .inl ((z_23 3), 7, .inl (fun _ => 0))), ((z_22 4), .inl ((z_23 4), 7, .inl (fun _ => 0))), ((z_22 5), .inl ((z_23 5), 7, .inl (fun _ => 0))), ((z_22 6), .inl ((z_23 6), 7, .inl (fun _ => 0))), (q_24, .inr (0, [.int 0, .int 0, .int (-1), .ref q_1, .ref q_5, .ref q_9, .ref (z_26 0), .ref (z_26 1), .int 0, .ref (z_26 2)])), ((z_26 0), .inl ((z_27 0), 30, .inl (fun _ => 0))), ((z_26 1), .inl ((z_27 1), 30, .inr (.inl (fun _ => 0)))), ((z_26 2), .inl ((z_27 2), 74, .inr (.inl (fun _ => 0)))), (q_28, .inl (k_29, 3, .inl (fun _ => 0))), (q_30, .inl (k_31, 16, .inl (fun _ => 0))), (q_32, .inl (k_33, 74, .inr (.inl (fun _ => 0)))), (q_34, .inl (k_35, 64, .inl (fun _ => 0))), (q_36, .inl (k_37, 8, .inl (fun _ => 0)))]) E h (fun w h => List.mem_cons_of_mem _ (List.mem_append_left _ (List.mem_append_left _ (List.mem_append_left _ (List.mem_append_left _ (List.mem_append_left _ (List.mem_append_left _ (List.mem_append_right _ h)))))))) tyX7_ok nmX7 0 rfl rfl 15 (by decide) (List.mem_of_getElem? (i := 35) rfl) rfl hnm rfl (by decide +kernel) rfl rfl (Nat.le_of_ble_eq_true rfl) rfl dX7_init_138 (fun H locs h => ?_)
  refine lv_aload_n hx hb dX7_init_141 rfl (lv_at hl 0 rfl) ?_
  refine k_get (v := .ref q_30) E h (fun w h => List.mem_cons_of_mem _ (List.mem_append_left _ (List.mem_append_left _ (List.mem_append_left _ (List.mem_append_left _ (List.mem_append_left _ (List.mem_append_left _ (List.mem_append_right _ h)))))))) 0 rfl rfl 7 (by decide) (List.mem_of_getElem? (i := 30) rfl) rfl dX7_init_142 ?_
  refine W.eq (g2 := F0 m 145 ls [.ref q_30]) rfl ?_
  refine lv_iconst (v := -1) hx hb dX7_init_145 (by decide) ?_
  refine kc_v (wc := [(q_30, .inl (k_31, 16, .inl (fun _ => 0)))]) (wr := [(o7, .inr (7, [.ref q_1, .ref q_5, .ref q_9, .ref q_16, .ref q_20, .ref q_24, .ref q_28, .ref q_30, .int 0, .int 0, .int 0, .ref q_32, .int 0, .ref q_34, .int 0, .ref q_36])), (q_1, .inr (2, [.ref (z_3 0), .ref (z_3 1), .ref (z_3 2), .ref (z_3 3), .int 0])), ((z_3 0), .inl ((z_4 0), 8, .inl (fun _ => 16))), ((z_3 1), .inl ((z_4 1), 74, .inr (.inl (fun _ => 0)))), ((z_3 2), .inl ((z_4 2), 30, .inl (fun _ => 0))), ((z_3 3), .inl ((z_4 3), 30, .inr (.inl (fun _ => 0)))), (q_5, .inr (5, [.ref (z_7 0), .ref (z_7 1), .ref (z_7 2), .ref (z_7 3), .ref (z_7 4), .ref (z_7 5), .ref (z_7 6)])), ((z_7 0), .inl ((z_8 0), 12, .inl (fun _ => 0))), ((z_7 1), .inl ((z_8 1), 120, .inl (fun _ => 0))), ((z_7 2), .inl ((z_8 2), 120, .inl (fun _ => 0))), ((z_7 3), .inl ((z_8 3), 120, .inl (fun _ => 0))), ((z_7 4), .inl ((z_8 4), 120, .inl (fun _ => 0))), ((z_7 5), .inl ((z_8 5), 120, .inl (fun _ => 0))), ((z_7 6), .inl ((z_8 6), 120, .inl (fun _ => 0))), (q_9, .inr (3, [.ref (z_11 0), .ref (z_11 1), .ref (z_11 2), .ref (z_11 3), .int 1, .ref q_5, .ref z_13])), ((z_11 0), .inl ((z_12 0), 12, .inl (fun _ => 0))), ((z_11 1), .inl ((z_12 1), 12, .inl (fun _ => 0))), ((z_11 2), .inl ((z_12 2), 120, .inl (fun _ => 0))), ((z_11 3), .inl ((z_12 3), 120, .inl (fun _ => 0))), (z_13, .inr (6, [.ref (z_14 0), .ref q_5, .ref (z_14 1), .ref (z_14 2), .ref (z_14 3), .ref (z_14 4), .ref (z_14 5), .ref (z_14 6), .int 0, .int 0])), ((z_14 0), .inl ((z_15 0), 10, .inl (fun _ => 0))), ((z_14 1), .inl ((z_15 1), 10, .inl (fun _ => 0))), ((z_14 2), .inl ((z_15 2), 10, .inl (fun _ => 0))), ((z_14 3), .inl ((z_15 3), 10, .inl (fun _ => 0))), ((z_14 4), .inl ((z_15 4), 5, .inl (fun _ => 0))), ((z_14 5), .inl ((z_15 5), 5, .inl (fun _ => 0))), ((z_14 6), .inl ((z_15 6), 1024, .inl (fun _ => 0))), (q_16, .inr (4, [.int 0, .int 0, .ref (z_18 0), .ref (z_18 1), .ref (z_18 2), .ref (z_18 3), .ref (z_18 4), .ref q_5, .ref q_9])), ((z_18 0), .inl ((z_19 0), 120, .inl (fun _ => 0))), ((z_18 1), .inl ((z_19 1), 120, .inl (fun _ => 0))), ((z_18 2), .inl ((z_19 2), 120, .inl (fun _ => 0))), ((z_18 3), .inl ((z_19 3), 120, .inl (fun _ => 0))), ((z_18 4), .inl ((z_19 4), 120, .inl (fun _ => 0))), (q_20, .inr (1, [.ref (z_22 0), .int 0, .int 0, .int 0, .ref (z_22 1), .ref (z_22 2), .ref (z_22 3), .ref (z_22 4), .ref (z_22 5), .ref (z_22 6), .ref q_5, .ref q_16])), ((z_22 0), .inl ((z_23 0), 7, .inl (fun _ => 0))), ((z_22 1), .inl ((z_23 1), 120, .inl (fun _ => 0))), ((z_22 2), .inl ((z_23 2), 120, .inl (fun _ => 0))), ((z_22 3), .inl ((z_23 3), 7, .inl (fun _ => 0))), ((z_22 4), .inl ((z_23 4), 7, .inl (fun _ => 0))), ((z_22 5), .inl ((z_23 5), 7, .inl (fun _ => 0))), ((z_22 6), .inl ((z_23 6), 7, .inl (fun _ => 0))), (q_24, .inr (0, [.int 0, .int 0, .int (-1), .ref q_1, .ref q_5, .ref q_9, .ref (z_26 0), .ref (z_26 1), .int 0, .ref (z_26 2)])), ((z_26 0), .inl ((z_27 0), 30, .inl (fun _ => 0))), ((z_26 1), .inl ((z_27 1), 30, .inr (.inl (fun _ => 0)))), ((z_26 2), .inl ((z_27 2), 74, .inr (.inl (fun _ => 0)))), (q_28, .inl (k_29, 3, .inl (fun _ => 0))), (q_32, .inl (k_33, 74, .inr (.inl (fun _ => 0)))), (q_34, .inl (k_35, 64, .inl (fun _ => 0))), (q_36, .inl (k_37, 8, .inl (fun _ => 0)))]) h (va_runS (As := [.ref q_30, .int (-1)]) (rest := []) E (c_J7_fill_53178 l dC dI _ (a9_0 := q_30) (c9_0 := k_31) (n9_0 := 16) (f9_0 := fun _ => 0) (p1 := (-1))  (hn := (by decide))) (va_cwS 2 E.2.2.2.2 gX7_init_J7_fill_53178 rfl rfl rfl (by decide +kernel) ⟨Nat.le_of_ble_eq_true rfl, Nat.le_of_ble_eq_true rfl⟩) (kPreS h KX_true (fun _ _ _ => trivial) [46] [38] (by decide) rfl rfl) rfl rfl hl.1 rfl (lv_room (Nat.le_of_ble_eq_true rfl)) dX7_init_146 ⟨Nat.le_of_ble_eq_true rfl, Nat.le_of_ble_eq_true rfl⟩) [46] [0, 1, 2, 3, 4, 5, 6, 7, 8, 9, 10, 11, 12, 13, 14, 15, 16, 17, 18, 19, 20, 21, 22, 23, 24, 25, 26, 27, 28, 29, 30, 31, 32, 33, 34, 35, 36, 37, 38, 39, 40, 41, 42, 43, 44, 45, 47, 48, 49] rfl rfl (by decide) (by decide) (fun u_38 H locs hw_38 h => ?_)
  have h : KS (dC, dI) A [(o7, .inr (7, [.ref q_1, .ref q_5, .ref q_9, .ref q_16, .ref q_20, .ref q_24, .ref q_28, .ref q_30, .int 0, .int 0, .int 0, .ref q_32, .int 0, .ref q_34, .int 0, .ref q_36])), (q_1, .inr (2, [.ref (z_3 0), .ref (z_3 1), .ref (z_3 2), .ref (z_3 3), .int 0])), ((z_3 0), .inl ((z_4 0), 8, .inl (fun _ => 16))), ((z_3 1), .inl ((z_4 1), 74, .inr (.inl (fun _ => 0)))), ((z_3 2), .inl ((z_4 2), 30, .inl (fun _ => 0))), ((z_3 3), .inl ((z_4 3), 30, .inr (.inl (fun _ => 0)))), (q_5, .inr (5, [.ref (z_7 0), .ref (z_7 1), .ref (z_7 2), .ref (z_7 3), .ref (z_7 4), .ref (z_7 5), .ref (z_7 6)])), ((z_7 0), .inl ((z_8 0), 12, .inl (fun _ => 0))), ((z_7 1), .inl ((z_8 1), 120, .inl (fun _ => 0))), ((z_7 2), .inl ((z_8 2), 120, .inl (fun _ => 0))), ((z_7 3), .inl ((z_8 3), 120, .inl (fun _ => 0))), ((z_7 4), .inl ((z_8 4), 120, .inl (fun _ => 0))), ((z_7 5), .inl ((z_8 5), 120, .inl (fun _ => 0))), ((z_7 6), .inl ((z_8 6), 120, .inl (fun _ => 0))), (q_9, .inr (3, [.ref (z_11 0), .ref (z_11 1), .ref (z_11 2), .ref (z_11 3), .int 1, .ref q_5, .ref z_13])), ((z_11 0), .inl ((z_12 0), 12, .inl (fun _ => 0))), ((z_11 1), .inl ((z_12 1), 12, .inl (fun _ => 0))), ((z_11 2), .inl ((z_12 2), 120, .inl (fun _ => 0))), ((z_11 3), .inl ((z_12 3), 120, .inl (fun _ => 0))), (z_13, .inr (6, [.ref (z_14 0), .ref q_5, .ref (z_14 1), .ref (z_14 2), .ref (z_14 3), .ref (z_14 4), .ref (z_14 5), .ref (z_14 6), .int 0, .int 0])), ((z_14 0), .inl ((z_15 0), 10, .inl (fun _ => 0))), ((z_14 1), .inl ((z_15 1), 10, .inl (fun _ => 0))), ((z_14 2), .inl ((z_15 2), 10, .inl (fun _ => 0))), ((z_14 3), .inl ((z_15 3), 10, .inl (fun _ => 0))), ((z_14 4), .inl ((z_15 4), 5, .inl (fun _ => 0))), ((z_14 5), .inl ((z_15 5), 5, .inl (fun _ => 0))), ((z_14 6), .inl ((z_15 6), 1024, .inl (fun _ => 0))), (q_16, .inr (4, [.int 0, .int 0, .ref (z_18 0), .ref (z_18 1), .ref (z_18 2), .ref (z_18 3), .ref (z_18 4), .ref q_5, .ref q_9])), ((z_18 0), .inl ((z_19 0), 120, .inl (fun _ => 0))), ((z_18 1), .inl ((z_19 1), 120, .inl (fun _ => 0))), ((z_18 2), .inl ((z_19 2), 120, .inl (fun _ => 0))), ((z_18 3), .inl ((z_19 3), 120, .inl (fun _ => 0))), ((z_18 4), .inl ((z_19 4), 120, .inl (fun _ => 0))), (q_20, .inr (1, [.ref (z_22 0), .int 0, .int 0, .int 0, .ref (z_22 1), .ref (z_22 2), .ref (z_22 3), .ref (z_22 4), .ref (z_22 5), .ref (z_22 6), .ref q_5, .ref q_16])), ((z_22 0), .inl ((z_23 0), 7, .inl (fun _ => 0))), ((z_22 1), .inl ((z_23 1), 120, .inl (fun _ => 0))), ((z_22 2), .inl ((z_23 2), 120, .inl (fun _ => 0))), ((z_22 3), .inl ((z_23 3), 7, .inl (fun _ => 0))), ((z_22 4), .inl ((z_23 4), 7, .inl (fun _ => 0))), ((z_22 5), .inl ((z_23 5), 7, .inl (fun _ => 0))), ((z_22 6), .inl ((z_23 6), 7, .inl (fun _ => 0))), (q_24, .inr (0, [.int 0, .int 0, .int (-1), .ref q_1, .ref q_5, .ref q_9, .ref (z_26 0), .ref (z_26 1), .int 0, .ref (z_26 2)])), ((z_26 0), .inl ((z_27 0), 30, .inl (fun _ => 0))), ((z_26 1), .inl ((z_27 1), 30, .inr (.inl (fun _ => 0)))), ((z_26 2), .inl ((z_27 2), 74, .inr (.inl (fun _ => 0)))), (q_28, .inl (k_29, 3, .inl (fun _ => 0))), (q_32, .inl (k_33, 74, .inr (.inl (fun _ => 0)))), (q_34, .inl (k_35, 64, .inl (fun _ => 0))), (q_36, .inl (k_37, 8, .inl (fun _ => 0))), (q_30, .inl (k_31, 16, .inl (fun _ => (-1))))] [((z_4 0), .int), ((z_4 1), .long), ((z_4 2), .int), ((z_4 3), .long), ((z_8 0), .int), ((z_8 1), .int), ((z_8 2), .int), ((z_8 3), .int), ((z_8 4), .int), ((z_8 5), .int), ((z_8 6), .int), ((z_12 0), .boolean), ((z_12 1), .int), ((z_12 2), .int), ((z_12 3), .int), ((z_15 0), .int), ((z_15 1), .int), ((z_15 2), .int), ((z_15 3), .int), ((z_15 4), .int), ((z_15 5), .int), ((z_15 6), .byte), ((z_19 0), .int), ((z_19 1), .int), ((z_19 2), .int), ((z_19 3), .int), ((z_19 4), .int), ((z_23 0), .int), ((z_23 1), .int), ((z_23 2), .int), ((z_23 3), .int), ((z_23 4), .int), ((z_23 5), .int), ((z_23 6), .int), ((z_27 0), .int), ((z_27 1), .long), ((z_27 2), .long), (k_29, .int), (k_31, .int), (k_33, .long), (k_35, .short), (k_37, .int)] s H locs := h
  refine W.eq (g2 := F0 m 149 ls []) rfl ?_
  refine lv_aload_n hx hb dX7_init_149 rfl (lv_at hl 0 rfl) ?_
  refine k_get (v := .ref q_28) E h (fun w h => List.mem_cons_of_mem _ (List.mem_append_left _ (List.mem_append_left _ (List.mem_append_left _ (List.mem_append_left _ (List.mem_append_left _ (List.mem_append_left _ (List.mem_append_right _ h)))))))) 0 rfl rfl 6 (by decide) (List.mem_of_getElem? (i := 29) rfl) rfl dX7_init_150 ?_
  refine lv_iconst (v := 2) hx hb dX7_init_153 (by decide) ?_
  refine lv_iconst (v := -1) hx hb dX7_init_154 (by decide) ?_
  refine k_iast (j := 2) (ws' := [(o7, .inr (7, [.ref q_1, .ref q_5, .ref q_9, .ref q_16, .ref q_20, .ref q_24, .ref q_28, .ref q_30, .int 0, .int 0, .int 0, .ref q_32, .int 0, .ref q_34, .int 0, .ref q_36])), (q_1, .inr (2, [.ref (z_3 0), .ref (z_3 1), .ref (z_3 2), .ref (z_3 3), .int 0])), ((z_3 0), .inl ((z_4 0), 8, .inl (fun _ => 16))), ((z_3 1), .inl ((z_4 1), 74, .inr (.inl (fun _ => 0)))), ((z_3 2), .inl ((z_4 2), 30, .inl (fun _ => 0))), ((z_3 3), .inl ((z_4 3), 30, .inr (.inl (fun _ => 0)))), (q_5, .inr (5, [.ref (z_7 0), .ref (z_7 1), .ref (z_7 2), .ref (z_7 3), .ref (z_7 4), .ref (z_7 5), .ref (z_7 6)])), ((z_7 0), .inl ((z_8 0), 12, .inl (fun _ => 0))), ((z_7 1), .inl ((z_8 1), 120, .inl (fun _ => 0))), ((z_7 2), .inl ((z_8 2), 120, .inl (fun _ => 0))), ((z_7 3), .inl ((z_8 3), 120, .inl (fun _ => 0))), ((z_7 4), .inl ((z_8 4), 120, .inl (fun _ => 0))), ((z_7 5), .inl ((z_8 5), 120, .inl (fun _ => 0))), ((z_7 6), .inl ((z_8 6), 120, .inl (fun _ => 0))), (q_9, .inr (3, [.ref (z_11 0), .ref (z_11 1), .ref (z_11 2), .ref (z_11 3), .int 1, .ref q_5, .ref z_13])), ((z_11 0), .inl ((z_12 0), 12, .inl (fun _ => 0))), ((z_11 1), .inl ((z_12 1), 12, .inl (fun _ => 0))), ((z_11 2), .inl ((z_12 2), 120, .inl (fun _ => 0))), ((z_11 3), .inl ((z_12 3), 120, .inl (fun _ => 0))), (z_13, .inr (6, [.ref (z_14 0), .ref q_5, .ref (z_14 1), .ref (z_14 2), .ref (z_14 3), .ref (z_14 4), .ref (z_14 5), .ref (z_14 6), .int 0, .int 0])), ((z_14 0), .inl ((z_15 0), 10, .inl (fun _ => 0))), ((z_14 1), .inl ((z_15 1), 10, .inl (fun _ => 0))), ((z_14 2), .inl ((z_15 2), 10, .inl (fun _ => 0))), ((z_14 3), .inl ((z_15 3), 10, .inl (fun _ => 0))), ((z_14 4), .inl ((z_15 4), 5, .inl (fun _ => 0))), ((z_14 5), .inl ((z_15 5), 5, .inl (fun _ => 0))), ((z_14 6), .inl ((z_15 6), 1024, .inl (fun _ => 0))), (q_16, .inr (4, [.int 0, .int 0, .ref (z_18 0), .ref (z_18 1), .ref (z_18 2), .ref (z_18 3), .ref (z_18 4), .ref q_5, .ref q_9])), ((z_18 0), .inl ((z_19 0), 120, .inl (fun _ => 0))), ((z_18 1), .inl ((z_19 1), 120, .inl (fun _ => 0))), ((z_18 2), .inl ((z_19 2), 120, .inl (fun _ => 0))), ((z_18 3), .inl ((z_19 3), 120, .inl (fun _ => 0))), ((z_18 4), .inl ((z_19 4), 120, .inl (fun _ => 0))), (q_20, .inr (1, [.ref (z_22 0), .int 0, .int 0, .int 0, .ref (z_22 1), .ref (z_22 2), .ref (z_22 3), .ref (z_22 4), .ref (z_22 5), .ref (z_22 6), .ref q_5, .ref q_16])), ((z_22 0), .inl ((z_23 0), 7, .inl (fun _ => 0))), ((z_22 1), .inl ((z_23 1), 120, .inl (fun _ => 0))), ((z_22 2), .inl ((z_23 2), 120, .inl (fun _ => 0))), ((z_22 3), .inl ((z_23 3), 7, .inl (fun _ => 0))), ((z_22 4), .inl ((z_23 4), 7, .inl (fun _ => 0))), ((z_22 5), .inl ((z_23 5), 7, .inl (fun _ => 0))), ((z_22 6), .inl ((z_23 6), 7, .inl (fun _ => 0))), (q_24, .inr (0, [.int 0, .int 0, .int (-1), .ref q_1, .ref q_5, .ref q_9, .ref (z_26 0), .ref (z_26 1), .int 0, .ref (z_26 2)])), ((z_26 0), .inl ((z_27 0), 30, .inl (fun _ => 0))), ((z_26 1), .inl ((z_27 1), 30, .inr (.inl (fun _ => 0)))), ((z_26 2), .inl ((z_27 2), 74, .inr (.inl (fun _ => 0)))), (q_28, .inl (k_29, 3, .inl (upd (fun _ => 0) 2 (-1)))), (q_32, .inl (k_33, 74, .inr (.inl (fun _ => 0)))), (q_34, .inl (k_35, 64, .inl (fun _ => 0))), (q_36, .inl (k_37, 8, .inl (fun _ => 0))), (q_30, .inl (k_31, 16, .inl (fun _ => (-1))))]) E h 45 37 rfl rfl (vin_dec rfl) rfl rfl dX7_init_155 (fun H locs h => ?_)
  refine lv_aload_n hx hb dX7_init_156 rfl (lv_at hl 0 rfl) ?_
  refine lv_iconst (v := -1) hx hb dX7_init_157 (by decide) ?_
  refine k_put (v := .int (-1)) (ty := .int) (ws' := [(o7, .inr (7, [.ref q_1, .ref q_5, .ref q_9, .ref q_16, .ref q_20, .ref q_24, .ref q_28, .ref q_30, .int 0, .int 0, .int 0, .ref q_32, .int 0, .ref q_34, .int (-1), .ref q_36])), (q_1, .inr (2, [.ref (z_3 0), .ref (z_3 1), .ref (z_3 2), .ref (z_3 3), .int 0])), ((z_3 0), .inl ((z_4 0), 8, .inl (fun _ => 16))), ((z_3 1), .inl ((z_4 1), 74, .inr (.inl (fun _ => 0)))), ((z_3 2), .inl ((z_4 2), 30, .inl (fun _ => 0))), ((z_3 3), .inl ((z_4 3), 30, .inr (.inl (fun _ => 0)))), (q_5, .inr (5, [.ref (z_7 0), .ref (z_7 1), .ref (z_7 2), .ref (z_7 3), .ref (z_7 4), .ref (z_7 5), .ref (z_7 6)])), ((z_7 0), .inl ((z_8 0), 12, .inl (fun _ => 0))), ((z_7 1), .inl ((z_8 1), 120, .inl (fun _ => 0))), ((z_7 2), .inl ((z_8 2), 120, .inl (fun _ => 0))), ((z_7 3), .inl ((z_8 3), 120, .inl (fun _ => 0))), ((z_7 4), .inl ((z_8 4), 120, .inl (fun _ => 0))), ((z_7 5), .inl ((z_8 5), 120, .inl (fun _ => 0))), ((z_7 6), .inl ((z_8 6), 120, .inl (fun _ => 0))), (q_9, .inr (3, [.ref (z_11 0), .ref (z_11 1), .ref (z_11 2), .ref (z_11 3), .int 1, .ref q_5, .ref z_13])), ((z_11 0), .inl ((z_12 0), 12, .inl (fun _ => 0))), ((z_11 1), .inl ((z_12 1), 12, .inl (fun _ => 0))), ((z_11 2), .inl ((z_12 2), 120, .inl (fun _ => 0))), ((z_11 3), .inl ((z_12 3), 120, .inl (fun _ => 0))), (z_13, .inr (6, [.ref (z_14 0), .ref q_5, .ref (z_14 1), .ref (z_14 2), .ref (z_14 3), .ref (z_14 4), .ref (z_14 5), .ref (z_14 6), .int 0, .int 0])), ((z_14 0), .inl ((z_15 0), 10, .inl (fun _ => 0))), ((z_14 1), .inl ((z_15 1), 10, .inl (fun _ => 0))), ((z_14 2), .inl ((z_15 2), 10, .inl (fun _ => 0))), ((z_14 3), .inl ((z_15 3), 10, .inl (fun _ => 0))), ((z_14 4), .inl ((z_15 4), 5, .inl (fun _ => 0))), ((z_14 5), .inl ((z_15 5), 5, .inl (fun _ => 0))), ((z_14 6), .inl ((z_15 6), 1024, .inl (fun _ => 0))), (q_16, .inr (4, [.int 0, .int 0, .ref (z_18 0), .ref (z_18 1), .ref (z_18 2), .ref (z_18 3), .ref (z_18 4), .ref q_5, .ref q_9])), ((z_18 0), .inl ((z_19 0), 120, .inl (fun _ => 0))), ((z_18 1), .inl ((z_19 1), 120, .inl (fun _ => 0))), ((z_18 2), .inl ((z_19 2), 120, .inl (fun _ => 0))), ((z_18 3), .inl ((z_19 3), 120, .inl (fun _ => 0))), ((z_18 4), .inl ((z_19 4), 120, .inl (fun _ => 0))), (q_20, .inr (1, [.ref (z_22 0), .int 0, .int 0, .int 0, .ref (z_22 1), .ref (z_22 2), .ref (z_22 3), .ref (z_22 4), .ref (z_22 5), .ref (z_22 6), .ref q_5, .ref q_16])), ((z_22 0), .inl ((z_23 0), 7, .inl (fun _ => 0))), ((z_22 1), .inl ((z_23 1), 120, .inl (fun _ => 0))), ((z_22 2), .inl ((z_23 2), 120, .inl (fun _ => 0))), ((z_22 3), .inl ((z_23 3), 7, .inl (fun _ => 0))), ((z_22 4), .inl ((z_23 4), 7, .inl (fun _ => 0))), ((z_22 5), .inl ((z_23 5), 7, .inl (fun _ => 0))), ((z_22 6), .inl ((z_23 6), 7, .inl (fun _ => 0))), (q_24, .inr (0, [.int 0, .int 0, .int (-1), .ref q_1, .ref q_5, .ref q_9, .ref (z_26 0), .ref (z_26 1), .int 0, .ref (z_26 2)])), ((z_26 0), .inl ((z_27 0), 30, .inl (fun _ => 0))), ((z_26 1), .inl ((z_27 1), 30, .inr (.inl (fun _ => 0)))), ((z_26 2), .inl ((z_27 2), 74, .inr (.inl (fun _ => 0)))), (q_28, .inl (k_29, 3, .inl (upd (fun _ => 0) 2 (-1)))), (q_32, .inl (k_33, 74, .inr (.inl (fun _ => 0)))), (q_34, .inl (k_35, 64, .inl (fun _ => 0))), (q_36, .inl (k_37, 8, .inl (fun _ => 0))), (q_30, .inl (k_31, 16, .inl (fun _ => (-1))))]) E h (fun w h => List.mem_cons_of_mem _ (List.mem_append_left _ (List.mem_append_left _ (List.mem_append_left _ (List.mem_append_left _ (List.mem_append_left _ (List.mem_append_left _ (List.mem_append_right _ h)))))))) tyX7_ok nmX7 0 rfl rfl 14 (by decide) (List.mem_of_getElem? (i := 36) rfl) rfl (by decide +kernel) rfl rfl (Nat.le_of_ble_eq_true rfl) rfl dX7_init_158 (fun H locs h => ?_)
  have hP9 := h.2.1.sub [0, 45, 49, 46, 47, 48, 1, 2, 3, 4, 5, 6, 7, 8, 9, 10, 11, 12, 13, 14, 15, 16, 17, 18, 19, 20, 21, 22, 23, 24, 25, 26, 27, 28, 29, 30, 31, 32, 33, 34, 35, 36, 37, 38, 39, 40, 41, 42, 43, 44] rfl
  have hD9 := h.2.2.1.sub (ws' := [(o7, .inr (7, [.ref q_1, .ref q_5, .ref q_9, .ref q_16, .ref q_20, .ref q_24, .ref q_28, .ref q_30, .int 0, .int 0, .int 0, .ref q_32, .int 0, .ref q_34, .int (-1), .ref q_36])), (q_28, .inl (k_29, 3, .inl (upd (fun _ => 0) 2 (-1)))), (q_30, .inl (k_31, 16, .inl (fun _ => (-1)))), (q_32, .inl (k_33, 74, .inr (.inl (fun _ => 0)))), (q_34, .inl (k_35, 64, .inl (fun _ => 0))), (q_36, .inl (k_37, 8, .inl (fun _ => 0))), (q_1, .inr (2, [.ref (z_3 0), .ref (z_3 1), .ref (z_3 2), .ref (z_3 3), .int 0])), ((z_3 0), .inl ((z_4 0), 8, .inl (fun _ => 16))), ((z_3 1), .inl ((z_4 1), 74, .inr (.inl (fun _ => 0)))), ((z_3 2), .inl ((z_4 2), 30, .inl (fun _ => 0))), ((z_3 3), .inl ((z_4 3), 30, .inr (.inl (fun _ => 0)))), (q_5, .inr (5, [.ref (z_7 0), .ref (z_7 1), .ref (z_7 2), .ref (z_7 3), .ref (z_7 4), .ref (z_7 5), .ref (z_7 6)])), ((z_7 0), .inl ((z_8 0), 12, .inl (fun _ => 0))), ((z_7 1), .inl ((z_8 1), 120, .inl (fun _ => 0))), ((z_7 2), .inl ((z_8 2), 120, .inl (fun _ => 0))), ((z_7 3), .inl ((z_8 3), 120, .inl (fun _ => 0))), ((z_7 4), .inl ((z_8 4), 120, .inl (fun _ => 0))), ((z_7 5), .inl ((z_8 5), 120, .inl (fun _ => 0))), ((z_7 6), .inl ((z_8 6), 120, .inl (fun _ => 0))), (q_9, .inr (3, [.ref (z_11 0), .ref (z_11 1), .ref (z_11 2), .ref (z_11 3), .int 1, .ref q_5, .ref z_13])), ((z_11 0), .inl ((z_12 0), 12, .inl (fun _ => 0))), ((z_11 1), .inl ((z_12 1), 12, .inl (fun _ => 0))), ((z_11 2), .inl ((z_12 2), 120, .inl (fun _ => 0))), ((z_11 3), .inl ((z_12 3), 120, .inl (fun _ => 0))), (z_13, .inr (6, [.ref (z_14 0), .ref q_5, .ref (z_14 1), .ref (z_14 2), .ref (z_14 3), .ref (z_14 4), .ref (z_14 5), .ref (z_14 6), .int 0, .int 0])), ((z_14 0), .inl ((z_15 0), 10, .inl (fun _ => 0))), ((z_14 1), .inl ((z_15 1), 10, .inl (fun _ => 0))), ((z_14 2), .inl ((z_15 2), 10, .inl (fun _ => 0))), ((z_14 3), .inl ((z_15 3), 10, .inl (fun _ => 0))), ((z_14 4), .inl ((z_15 4), 5, .inl (fun _ => 0))), ((z_14 5), .inl ((z_15 5), 5, .inl (fun _ => 0))), ((z_14 6), .inl ((z_15 6), 1024, .inl (fun _ => 0))), (q_16, .inr (4, [.int 0, .int 0, .ref (z_18 0), .ref (z_18 1), .ref (z_18 2), .ref (z_18 3), .ref (z_18 4), .ref q_5, .ref q_9])), ((z_18 0), .inl ((z_19 0), 120, .inl (fun _ => 0))), ((z_18 1), .inl ((z_19 1), 120, .inl (fun _ => 0))), ((z_18 2), .inl ((z_19 2), 120, .inl (fun _ => 0))), ((z_18 3), .inl ((z_19 3), 120, .inl (fun _ => 0))), ((z_18 4), .inl ((z_19 4), 120, .inl (fun _ => 0))), (q_20, .inr (1, [.ref (z_22 0), .int 0, .int 0, .int 0, .ref (z_22 1), .ref (z_22 2), .ref (z_22 3), .ref (z_22 4), .ref (z_22 5), .ref (z_22 6), .ref q_5, .ref q_16])), ((z_22 0), .inl ((z_23 0), 7, .inl (fun _ => 0))), ((z_22 1), .inl ((z_23 1), 120, .inl (fun _ => 0))), ((z_22 2), .inl ((z_23 2), 120, .inl (fun _ => 0))), ((z_22 3), .inl ((z_23 3), 7, .inl (fun _ => 0))), ((z_22 4), .inl ((z_23 4), 7, .inl (fun _ => 0))), ((z_22 5), .inl ((z_23 5), 7, .inl (fun _ => 0))), ((z_22 6), .inl ((z_23 6), 7, .inl (fun _ => 0))), (q_24, .inr (0, [.int 0, .int 0, .int (-1), .ref q_1, .ref q_5, .ref q_9, .ref (z_26 0), .ref (z_26 1), .int 0, .ref (z_26 2)])), ((z_26 0), .inl ((z_27 0), 30, .inl (fun _ => 0))), ((z_26 1), .inl ((z_27 1), 30, .inr (.inl (fun _ => 0)))), ((z_26 2), .inl ((z_27 2), 74, .inr (.inl (fun _ => 0))))]) [0, 45, 49, 46, 47, 48, 1, 2, 3, 4, 5, 6, 7, 8, 9, 10, 11, 12, 13, 14, 15, 16, 17, 18, 19, 20, 21, 22, 23, 24, 25, 26, 27, 28, 29, 30, 31, 32, 33, 34, 35, 36, 37, 38, 39, 40, 41, 42, 43, 44] (by decide) rfl
  have hK9 := h.1.sub (tys' := [(k_29, .int), (k_31, .int), (k_33, .long), (k_35, .short), (k_37, .int), ((z_4 0), .int), ((z_4 1), .long), ((z_4 2), .int), ((z_4 3), .long), ((z_8 0), .int), ((z_8 1), .int), ((z_8 2), .int), ((z_8 3), .int), ((z_8 4), .int), ((z_8 5), .int), ((z_8 6), .int), ((z_12 0), .boolean), ((z_12 1), .int), ((z_12 2), .int), ((z_12 3), .int), ((z_15 0), .int), ((z_15 1), .int), ((z_15 2), .int), ((z_15 3), .int), ((z_15 4), .int), ((z_15 5), .int), ((z_15 6), .byte), ((z_19 0), .int), ((z_19 1), .int), ((z_19 2), .int), ((z_19 3), .int), ((z_19 4), .int), ((z_23 0), .int), ((z_23 1), .int), ((z_23 2), .int), ((z_23 3), .int), ((z_23 4), .int), ((z_23 5), .int), ((z_23 6), .int), ((z_27 0), .int), ((z_27 1), .long), ((z_27 2), .long)]) [37, 38, 39, 40, 41, 0, 1, 2, 3, 4, 5, 6, 7, 8, 9, 10, 11, 12, 13, 14, 15, 16, 17, 18, 19, 20, 21, 22, 23, 24, 25, 26, 27, 28, 29, 30, 31, 32, 33, 34, 35, 36] rfl
  exact W.vret hx hb hr (fun t ht hW => ⟨⟨(fun i => [q_28, q_30, q_32, q_34, q_36].getD i 0, fun i => [k_29, k_31, k_33, k_35, k_37].getD i 0, q_1, fun i => [(z_3 0), (z_3 1), (z_3 2), (z_3 3)].getD i 0, fun i => [(z_4 0), (z_4 1), (z_4 2), (z_4 3)].getD i 0, q_5, fun i => [(z_7 0), (z_7 1), (z_7 2), (z_7 3), (z_7 4), (z_7 5), (z_7 6)].getD i 0, fun i => [(z_8 0), (z_8 1), (z_8 2), (z_8 3), (z_8 4), (z_8 5), (z_8 6)].getD i 0, q_9, fun i => [(z_11 0), (z_11 1), (z_11 2), (z_11 3)].getD i 0, fun i => [(z_12 0), (z_12 1), (z_12 2), (z_12 3)].getD i 0, z_13, fun i => [(z_14 0), (z_14 1), (z_14 2), (z_14 3), (z_14 4), (z_14 5), (z_14 6)].getD i 0, fun i => [(z_15 0), (z_15 1), (z_15 2), (z_15 3), (z_15 4), (z_15 5), (z_15 6)].getD i 0, q_16, fun i => [(z_18 0), (z_18 1), (z_18 2), (z_18 3), (z_18 4)].getD i 0, fun i => [(z_19 0), (z_19 1), (z_19 2), (z_19 3), (z_19 4)].getD i 0, q_20, fun i => [(z_22 0), (z_22 1), (z_22 2), (z_22 3), (z_22 4), (z_22 5), (z_22 6)].getD i 0, fun i => [(z_23 0), (z_23 1), (z_23 2), (z_23 3), (z_23 4), (z_23 5), (z_23 6)].getD i 0, q_24, fun i => [(z_26 0), (z_26 1), (z_26 2)].getD i 0, fun i => [(z_27 0), (z_27 1), (z_27 2)].getD i 0), rfl, trivial, (by rw [ht]; exact hP9), hD9, va_K.moved hW.alike hK9⟩, h.2.2.2.1.F ht⟩) h.2.2.2.1.2.2 dX7_init_161 hlocks
end

section
/-- a private method of a class that the tables say can be made, by its rows of tables_1 -/
def lw_okq (q : MethodName × Nat) : Prop := (q.1.cls ≠ "java/lang/invoke/MethodHandle" ∧ q.1.cls ≠ "java/lang/invoke/VarHandle") ∧ Cond.instantiable q.1.cls q.2 ∈ tables_1 ∧ Cond.privateMethod q.1 ∈ tables_1 ∧ Cond.instanceMethod q.1 ∈ tables_1
theorem lw_p0 : lw_okq (⟨"OrdinalRink", "openEvent", "(II)V"⟩, 6) := ⟨⟨by decide +kernel, by decide +kernel⟩, List.mem_of_getElem? (i := 25) (by decide +kernel), List.mem_of_getElem? (i := 133) (by decide +kernel), List.mem_of_getElem? (i := 134) (by decide +kernel)⟩
theorem lw_p1 : lw_okq (⟨"java/lang/Throwable", "fillInStackTrace", "(I)Ljava/lang/Throwable;"⟩, 6) := ⟨⟨by decide +kernel, by decide +kernel⟩, List.mem_of_getElem? (i := 337) (by decide +kernel), List.mem_of_getElem? (i := 335) (by decide +kernel), List.mem_of_getElem? (i := 336) (by decide +kernel)⟩
theorem lw_p2 : lw_okq (⟨"OrdinalRink", "requireSegment", "(I)V"⟩, 6) := ⟨⟨by decide +kernel, by decide +kernel⟩, List.mem_of_getElem? (i := 25) (by decide +kernel), List.mem_of_getElem? (i := 376) (by decide +kernel), List.mem_of_getElem? (i := 377) (by decide +kernel)⟩
theorem lw_p3 : lw_okq (⟨"OrdinalRink", "requireOpen", "(I)V"⟩, 6) := ⟨⟨by decide +kernel, by decide +kernel⟩, List.mem_of_getElem? (i := 25) (by decide +kernel), List.mem_of_getElem? (i := 398) (by decide +kernel), List.mem_of_getElem? (i := 399) (by decide +kernel)⟩
theorem lw_p4 : lw_okq (⟨"OrdinalRink", "requireJudge", "(I)V"⟩, 6) := ⟨⟨by decide +kernel, by decide +kernel⟩, List.mem_of_getElem? (i := 25) (by decide +kernel), List.mem_of_getElem? (i := 425) (by decide +kernel), List.mem_of_getElem? (i := 426) (by decide +kernel)⟩
theorem lw_p5 : lw_okq (⟨"OrdinalRink", "requireSkater", "(I)V"⟩, 6) := ⟨⟨by decide +kernel, by decide +kernel⟩, List.mem_of_getElem? (i := 25) (by decide +kernel), List.mem_of_getElem? (i := 430) (by decide +kernel), List.mem_of_getElem? (i := 431) (by decide +kernel)⟩
theorem lw_p6 : lw_okq (⟨"OrdinalRink", "requireNumber", "(I)V"⟩, 6) := ⟨⟨by decide +kernel, by decide +kernel⟩, List.mem_of_getElem? (i := 25) (by decide +kernel), List.mem_of_getElem? (i := 435) (by decide +kernel), List.mem_of_getElem? (i := 436) (by decide +kernel)⟩
theorem lw_p7 : lw_okq (⟨"OrdinalRink", "changesPublishedStarters", "(II)Z"⟩, 6) := ⟨⟨by decide +kernel, by decide +kernel⟩, List.mem_of_getElem? (i := 25) (by decide +kernel), List.mem_of_getElem? (i := 476) (by decide +kernel), List.mem_of_getElem? (i := 477) (by decide +kernel)⟩
theorem lw_p8 : lw_okq (⟨"OrdinalRink", "firstSegmentWithout", "(I)I"⟩, 6) := ⟨⟨by decide +kernel, by decide +kernel⟩, List.mem_of_getElem? (i := 25) (by decide +kernel), List.mem_of_getElem? (i := 481) (by decide +kernel), List.mem_of_getElem? (i := 482) (by decide +kernel)⟩
theorem lw_p9 : lw_okq (⟨"OrdinalRink$Segment", "hasMarkedStarters", "(I)Z"⟩, 13) := ⟨⟨by decide +kernel, by decide +kernel⟩, List.mem_of_getElem? (i := 79) (by decide +kernel), List.mem_of_getElem? (i := 496) (by decide +kernel), List.mem_of_getElem? (i := 497) (by decide +kernel)⟩
theorem lw_p10 : lw_okq (⟨"OrdinalRink$Segment", "fillOrdinals", "(I)V"⟩, 13) := ⟨⟨by decide +kernel, by decide +kernel⟩, List.mem_of_getElem? (i := 79) (by decide +kernel), List.mem_of_getElem? (i := 500) (by decide +kernel), List.mem_of_getElem? (i := 501) (by decide +kernel)⟩
theorem lw_p11 : lw_okq (⟨"OrdinalRink$Segment", "worth", "(III)I"⟩, 13) := ⟨⟨by decide +kernel, by decide +kernel⟩, List.mem_of_getElem? (i := 79) (by decide +kernel), List.mem_of_getElem? (i := 504) (by decide +kernel), List.mem_of_getElem? (i := 505) (by decide +kernel)⟩
theorem lw_p12 : lw_okq (⟨"OrdinalRink$Segment", "fillMajority", "(II)V"⟩, 13) := ⟨⟨by decide +kernel, by decide +kernel⟩, List.mem_of_getElem? (i := 79) (by decide +kernel), List.mem_of_getElem? (i := 534) (by decide +kernel), List.mem_of_getElem? (i := 535) (by decide +kernel)⟩
theorem lw_p13 : lw_okq (⟨"OrdinalRink$Segment", "countUpTo", "(II)I"⟩, 13) := ⟨⟨by decide +kernel, by decide +kernel⟩, List.mem_of_getElem? (i := 79) (by decide +kernel), List.mem_of_getElem? (i := 538) (by decide +kernel), List.mem_of_getElem? (i := 539) (by decide +kernel)⟩
theorem lw_p14 : lw_okq (⟨"OrdinalRink$Segment", "sumUpTo", "(II)I"⟩, 13) := ⟨⟨by decide +kernel, by decide +kernel⟩, List.mem_of_getElem? (i := 79) (by decide +kernel), List.mem_of_getElem? (i := 542) (by decide +kernel), List.mem_of_getElem? (i := 543) (by decide +kernel)⟩
theorem lw_p15 : lw_okq (⟨"OrdinalRink$Segment", "fillPlace", "(I)V"⟩, 13) := ⟨⟨by decide +kernel, by decide +kernel⟩, List.mem_of_getElem? (i := 79) (by decide +kernel), List.mem_of_getElem? (i := 546) (by decide +kernel), List.mem_of_getElem? (i := 547) (by decide +kernel)⟩
def lw_privs_1 : List (MethodName × Nat) := [(⟨"OrdinalRink", "openEvent", "(II)V"⟩, 6), (⟨"java/lang/Throwable", "fillInStackTrace", "(I)Ljava/lang/Throwable;"⟩, 6), (⟨"OrdinalRink", "requireSegment", "(I)V"⟩, 6), (⟨"OrdinalRink", "requireOpen", "(I)V"⟩, 6), (⟨"OrdinalRink", "requireJudge", "(I)V"⟩, 6), (⟨"OrdinalRink", "requireSkater", "(I)V"⟩, 6), (⟨"OrdinalRink", "requireNumber", "(I)V"⟩, 6), (⟨"OrdinalRink", "changesPublishedStarters", "(II)Z"⟩, 6), (⟨"OrdinalRink", "firstSegmentWithout", "(I)I"⟩, 6), (⟨"OrdinalRink$Segment", "hasMarkedStarters", "(I)Z"⟩, 13), (⟨"OrdinalRink$Segment", "fillOrdinals", "(I)V"⟩, 13), (⟨"OrdinalRink$Segment", "worth", "(III)I"⟩, 13), (⟨"OrdinalRink$Segment", "fillMajority", "(II)V"⟩, 13), (⟨"OrdinalRink$Segment", "countUpTo", "(II)I"⟩, 13), (⟨"OrdinalRink$Segment", "sumUpTo", "(II)I"⟩, 13), (⟨"OrdinalRink$Segment", "fillPlace", "(I)V"⟩, 13)]
theorem lw_r1 : ∀ q ∈ lw_privs_1, lw_okq q := List.forall_mem_cons.mpr ⟨lw_p0, List.forall_mem_cons.mpr ⟨lw_p1, List.forall_mem_cons.mpr ⟨lw_p2, List.forall_mem_cons.mpr ⟨lw_p3, List.forall_mem_cons.mpr ⟨lw_p4, List.forall_mem_cons.mpr ⟨lw_p5, List.forall_mem_cons.mpr ⟨lw_p6, List.forall_mem_cons.mpr ⟨lw_p7, List.forall_mem_cons.mpr ⟨lw_p8, List.forall_mem_cons.mpr ⟨lw_p9, List.forall_mem_cons.mpr ⟨lw_p10, List.forall_mem_cons.mpr ⟨lw_p11, List.forall_mem_cons.mpr ⟨lw_p12, List.forall_mem_cons.mpr ⟨lw_p13, List.forall_mem_cons.mpr ⟨lw_p14, List.forall_mem_cons.mpr ⟨lw_p15, fun _ h => absurd h List.not_mem_nil⟩⟩⟩⟩⟩⟩⟩⟩⟩⟩⟩⟩⟩⟩⟩⟩
theorem lw_p16 : lw_okq (⟨"OrdinalRink$Segment", "isBeforeAt", "(III)Z"⟩, 13) := ⟨⟨by decide +kernel, by decide +kernel⟩, List.mem_of_getElem? (i := 79) (by decide +kernel), List.mem_of_getElem? (i := 554) (by decide +kernel), List.mem_of_getElem? (i := 555) (by decide +kernel)⟩
theorem lw_p17 : lw_okq (⟨"OrdinalRink$Segment", "lastOfPanel", "()I"⟩, 13) := ⟨⟨by decide +kernel, by decide +kernel⟩, List.mem_of_getElem? (i := 79) (by decide +kernel), List.mem_of_getElem? (i := 578) (by decide +kernel), List.mem_of_getElem? (i := 579) (by decide +kernel)⟩
theorem lw_p18 : lw_okq (⟨"OrdinalRink$Segment", "reaches", "(IIII)Z"⟩, 13) := ⟨⟨by decide +kernel, by decide +kernel⟩, List.mem_of_getElem? (i := 79) (by decide +kernel), List.mem_of_getElem? (i := 582) (by decide +kernel), List.mem_of_getElem? (i := 583) (by decide +kernel)⟩
theorem lw_p19 : lw_okq (⟨"OrdinalRink$Segment", "bestFirst", "(II)I"⟩, 13) := ⟨⟨by decide +kernel, by decide +kernel⟩, List.mem_of_getElem? (i := 79) (by decide +kernel), List.mem_of_getElem? (i := 586) (by decide +kernel), List.mem_of_getElem? (i := 587) (by decide +kernel)⟩
theorem lw_p20 : lw_okq (⟨"OrdinalRink", "settlePublished", "()Z"⟩, 6) := ⟨⟨by decide +kernel, by decide +kernel⟩, List.mem_of_getElem? (i := 25) (by decide +kernel), List.mem_of_getElem? (i := 609) (by decide +kernel), List.mem_of_getElem? (i := 610) (by decide +kernel)⟩
theorem lw_p21 : lw_okq (⟨"OrdinalRink", "settledTotal", "(I)I"⟩, 6) := ⟨⟨by decide +kernel, by decide +kernel⟩, List.mem_of_getElem? (i := 25) (by decide +kernel), List.mem_of_getElem? (i := 614) (by decide +kernel), List.mem_of_getElem? (i := 615) (by decide +kernel)⟩
theorem lw_p22 : lw_okq (⟨"OrdinalRink", "ranksBefore", "(II)Z"⟩, 6) := ⟨⟨by decide +kernel, by decide +kernel⟩, List.mem_of_getElem? (i := 25) (by decide +kernel), List.mem_of_getElem? (i := 625) (by decide +kernel), List.mem_of_getElem? (i := 626) (by decide +kernel)⟩
theorem lw_p23 : lw_okq (⟨"OrdinalRink", "publishedStarts", "(I)I"⟩, 6) := ⟨⟨by decide +kernel, by decide +kernel⟩, List.mem_of_getElem? (i := 25) (by decide +kernel), List.mem_of_getElem? (i := 629) (by decide +kernel), List.mem_of_getElem? (i := 630) (by decide +kernel)⟩
theorem lw_p24 : lw_okq (⟨"OrdinalRink", "winsLastFree", "(II)Z"⟩, 6) := ⟨⟨by decide +kernel, by decide +kernel⟩, List.mem_of_getElem? (i := 25) (by decide +kernel), List.mem_of_getElem? (i := 633) (by decide +kernel), List.mem_of_getElem? (i := 634) (by decide +kernel)⟩
theorem lw_p25 : lw_okq (⟨"OrdinalRink", "provesPlaceIn", "(LOrdinalRink$Segment;)Z"⟩, 6) := ⟨⟨by decide +kernel, by decide +kernel⟩, List.mem_of_getElem? (i := 25) (by decide +kernel), List.mem_of_getElem? (i := 851) (by decide +kernel), List.mem_of_getElem? (i := 852) (by decide +kernel)⟩
theorem lw_p26 : lw_okq (⟨"OrdinalRinkModel", "clear", "()V"⟩, 19) := ⟨⟨by decide +kernel, by decide +kernel⟩, List.mem_of_getElem? (i := 855) (by decide +kernel), List.mem_of_getElem? (i := 861) (by decide +kernel), List.mem_of_getElem? (i := 862) (by decide +kernel)⟩
theorem lw_p27 : lw_okq (⟨"OrdinalRinkModel", "refused", "(I)Z"⟩, 19) := ⟨⟨by decide +kernel, by decide +kernel⟩, List.mem_of_getElem? (i := 855) (by decide +kernel), List.mem_of_getElem? (i := 931) (by decide +kernel), List.mem_of_getElem? (i := 932) (by decide +kernel)⟩
theorem lw_p28 : lw_okq (⟨"OrdinalRinkModel", "isJudge", "(I)Z"⟩, 19) := ⟨⟨by decide +kernel, by decide +kernel⟩, List.mem_of_getElem? (i := 855) (by decide +kernel), List.mem_of_getElem? (i := 946) (by decide +kernel), List.mem_of_getElem? (i := 947) (by decide +kernel)⟩
theorem lw_p29 : lw_okq (⟨"OrdinalRinkModel", "isSkater", "(I)Z"⟩, 19) := ⟨⟨by decide +kernel, by decide +kernel⟩, List.mem_of_getElem? (i := 855) (by decide +kernel), List.mem_of_getElem? (i := 950) (by decide +kernel), List.mem_of_getElem? (i := 951) (by decide +kernel)⟩
theorem lw_p30 : lw_okq (⟨"OrdinalRinkModel", "put", "(IZII)V"⟩, 19) := ⟨⟨by decide +kernel, by decide +kernel⟩, List.mem_of_getElem? (i := 855) (by decide +kernel), List.mem_of_getElem? (i := 957) (by decide +kernel), List.mem_of_getElem? (i := 958) (by decide +kernel)⟩
theorem lw_p31 : lw_okq (⟨"OrdinalRinkModel", "panel", "(I)I"⟩, 19) := ⟨⟨by decide +kernel, by decide +kernel⟩, List.mem_of_getElem? (i := 855) (by decide +kernel), List.mem_of_getElem? (i := 969) (by decide +kernel), List.mem_of_getElem? (i := 970) (by decide +kernel)⟩
def lw_privs_2 : List (MethodName × Nat) := [(⟨"OrdinalRink$Segment", "isBeforeAt", "(III)Z"⟩, 13), (⟨"OrdinalRink$Segment", "lastOfPanel", "()I"⟩, 13), (⟨"OrdinalRink$Segment", "reaches", "(IIII)Z"⟩, 13), (⟨"OrdinalRink$Segment", "bestFirst", "(II)I"⟩, 13), (⟨"OrdinalRink", "settlePublished", "()Z"⟩, 6), (⟨"OrdinalRink", "settledTotal", "(I)I"⟩, 6), (⟨"OrdinalRink", "ranksBefore", "(II)Z"⟩, 6), (⟨"OrdinalRink", "publishedStarts", "(I)I"⟩, 6), (⟨"OrdinalRink", "winsLastFree", "(II)Z"⟩, 6), (⟨"OrdinalRink", "provesPlaceIn", "(LOrdinalRink$Segment;)Z"⟩, 6), (⟨"OrdinalRinkModel", "clear", "()V"⟩, 19), (⟨"OrdinalRinkModel", "refused", "(I)Z"⟩, 19), (⟨"OrdinalRinkModel", "isJudge", "(I)Z"⟩, 19), (⟨"OrdinalRinkModel", "isSkater", "(I)Z"⟩, 19), (⟨"OrdinalRinkModel", "put", "(IZII)V"⟩, 19), (⟨"OrdinalRinkModel", "panel", "(I)I"⟩, 19)]
theorem lw_r2 : ∀ q ∈ lw_privs_2, lw_okq q := List.forall_mem_cons.mpr ⟨lw_p16, List.forall_mem_cons.mpr ⟨lw_p17, List.forall_mem_cons.mpr ⟨lw_p18, List.forall_mem_cons.mpr ⟨lw_p19, List.forall_mem_cons.mpr ⟨lw_p20, List.forall_mem_cons.mpr ⟨lw_p21, List.forall_mem_cons.mpr ⟨lw_p22, List.forall_mem_cons.mpr ⟨lw_p23, List.forall_mem_cons.mpr ⟨lw_p24, List.forall_mem_cons.mpr ⟨lw_p25, List.forall_mem_cons.mpr ⟨lw_p26, List.forall_mem_cons.mpr ⟨lw_p27, List.forall_mem_cons.mpr ⟨lw_p28, List.forall_mem_cons.mpr ⟨lw_p29, List.forall_mem_cons.mpr ⟨lw_p30, List.forall_mem_cons.mpr ⟨lw_p31, fun _ h => absurd h List.not_mem_nil⟩⟩⟩⟩⟩⟩⟩⟩⟩⟩⟩⟩⟩⟩⟩⟩
theorem lw_p32 : lw_okq (⟨"OrdinalRinkModel", "reckonJudge", "(II)Z"⟩, 19) := ⟨⟨by decide +kernel, by decide +kernel⟩, List.mem_of_getElem? (i := 855) (by decide +kernel), List.mem_of_getElem? (i := 981) (by decide +kernel), List.mem_of_getElem? (i := 982) (by decide +kernel)⟩
theorem lw_p33 : lw_okq (⟨"OrdinalRinkModel", "starts", "(II)Z"⟩, 19) := ⟨⟨by decide +kernel, by decide +kernel⟩, List.mem_of_getElem? (i := 855) (by decide +kernel), List.mem_of_getElem? (i := 985) (by decide +kernel), List.mem_of_getElem? (i := 986) (by decide +kernel)⟩
theorem lw_p34 : lw_okq (⟨"OrdinalRinkModel", "isBetter", "(IIII)Z"⟩, 19) := ⟨⟨by decide +kernel, by decide +kernel⟩, List.mem_of_getElem? (i := 855) (by decide +kernel), List.mem_of_getElem? (i := 989) (by decide +kernel), List.mem_of_getElem? (i := 990) (by decide +kernel)⟩
theorem lw_p35 : lw_okq (⟨"OrdinalRinkModel", "lessened", "(II)I"⟩, 19) := ⟨⟨by decide +kernel, by decide +kernel⟩, List.mem_of_getElem? (i := 855) (by decide +kernel), List.mem_of_getElem? (i := 993) (by decide +kernel), List.mem_of_getElem? (i := 994) (by decide +kernel)⟩
theorem lw_p36 : lw_okq (⟨"OrdinalRinkModel", "reckon", "(I)Z"⟩, 19) := ⟨⟨by decide +kernel, by decide +kernel⟩, List.mem_of_getElem? (i := 855) (by decide +kernel), List.mem_of_getElem? (i := 1001) (by decide +kernel), List.mem_of_getElem? (i := 1002) (by decide +kernel)⟩
theorem lw_p37 : lw_okq (⟨"OrdinalRinkModel", "reckonSkater", "(II)V"⟩, 19) := ⟨⟨by decide +kernel, by decide +kernel⟩, List.mem_of_getElem? (i := 855) (by decide +kernel), List.mem_of_getElem? (i := 1005) (by decide +kernel), List.mem_of_getElem? (i := 1006) (by decide +kernel)⟩
theorem lw_p38 : lw_okq (⟨"OrdinalRinkModel", "result", "(III)I"⟩, 19) := ⟨⟨by decide +kernel, by decide +kernel⟩, List.mem_of_getElem? (i := 855) (by decide +kernel), List.mem_of_getElem? (i := 1009) (by decide +kernel), List.mem_of_getElem? (i := 1010) (by decide +kernel)⟩
theorem lw_p39 : lw_okq (⟨"OrdinalRinkModel", "placeOf", "(II)I"⟩, 19) := ⟨⟨by decide +kernel, by decide +kernel⟩, List.mem_of_getElem? (i := 855) (by decide +kernel), List.mem_of_getElem? (i := 1013) (by decide +kernel), List.mem_of_getElem? (i := 1014) (by decide +kernel)⟩
theorem lw_p40 : lw_okq (⟨"OrdinalRinkModel", "isBefore", "(II)Z"⟩, 19) := ⟨⟨by decide +kernel, by decide +kernel⟩, List.mem_of_getElem? (i := 855) (by decide +kernel), List.mem_of_getElem? (i := 1017) (by decide +kernel), List.mem_of_getElem? (i := 1018) (by decide +kernel)⟩
theorem lw_p41 : lw_okq (⟨"OrdinalRinkModel", "parts", "(II)I"⟩, 19) := ⟨⟨by decide +kernel, by decide +kernel⟩, List.mem_of_getElem? (i := 855) (by decide +kernel), List.mem_of_getElem? (i := 1021) (by decide +kernel), List.mem_of_getElem? (i := 1022) (by decide +kernel)⟩
theorem lw_p42 : lw_okq (⟨"OrdinalRinkModel", "leastSum", "(IIII)I"⟩, 19) := ⟨⟨by decide +kernel, by decide +kernel⟩, List.mem_of_getElem? (i := 855) (by decide +kernel), List.mem_of_getElem? (i := 1033) (by decide +kernel), List.mem_of_getElem? (i := 1034) (by decide +kernel)⟩
theorem lw_p43 : lw_okq (⟨"OrdinalRinkModel", "totalOf", "(I)I"⟩, 19) := ⟨⟨by decide +kernel, by decide +kernel⟩, List.mem_of_getElem? (i := 855) (by decide +kernel), List.mem_of_getElem? (i := 1045) (by decide +kernel), List.mem_of_getElem? (i := 1046) (by decide +kernel)⟩
theorem lw_p44 : lw_okq (⟨"OrdinalRinkModel", "publishedPlace", "(II)I"⟩, 19) := ⟨⟨by decide +kernel, by decide +kernel⟩, List.mem_of_getElem? (i := 855) (by decide +kernel), List.mem_of_getElem? (i := 1049) (by decide +kernel), List.mem_of_getElem? (i := 1050) (by decide +kernel)⟩
theorem lw_p45 : lw_okq (⟨"OrdinalRinkModel", "ranksBefore", "(II)Z"⟩, 19) := ⟨⟨by decide +kernel, by decide +kernel⟩, List.mem_of_getElem? (i := 855) (by decide +kernel), List.mem_of_getElem? (i := 1057) (by decide +kernel), List.mem_of_getElem? (i := 1058) (by decide +kernel)⟩
theorem lw_p46 : lw_okq (⟨"OrdinalRinkModel", "started", "(I)I"⟩, 19) := ⟨⟨by decide +kernel, by decide +kernel⟩, List.mem_of_getElem? (i := 855) (by decide +kernel), List.mem_of_getElem? (i := 1061) (by decide +kernel), List.mem_of_getElem? (i := 1062) (by decide +kernel)⟩
theorem lw_p47 : lw_okq (⟨"OrdinalRinkModel", "writeNumber", "(I)V"⟩, 19) := ⟨⟨by decide +kernel, by decide +kernel⟩, List.mem_of_getElem? (i := 855) (by decide +kernel), List.mem_of_getElem? (i := 1069) (by decide +kernel), List.mem_of_getElem? (i := 1070) (by decide +kernel)⟩
def lw_privs_3 : List (MethodName × Nat) := [(⟨"OrdinalRinkModel", "reckonJudge", "(II)Z"⟩, 19), (⟨"OrdinalRinkModel", "starts", "(II)Z"⟩, 19), (⟨"OrdinalRinkModel", "isBetter", "(IIII)Z"⟩, 19), (⟨"OrdinalRinkModel", "lessened", "(II)I"⟩, 19), (⟨"OrdinalRinkModel", "reckon", "(I)Z"⟩, 19), (⟨"OrdinalRinkModel", "reckonSkater", "(II)V"⟩, 19), (⟨"OrdinalRinkModel", "result", "(III)I"⟩, 19), (⟨"OrdinalRinkModel", "placeOf", "(II)I"⟩, 19), (⟨"OrdinalRinkModel", "isBefore", "(II)Z"⟩, 19), (⟨"OrdinalRinkModel", "parts", "(II)I"⟩, 19), (⟨"OrdinalRinkModel", "leastSum", "(IIII)I"⟩, 19), (⟨"OrdinalRinkModel", "totalOf", "(I)I"⟩, 19), (⟨"OrdinalRinkModel", "publishedPlace", "(II)I"⟩, 19), (⟨"OrdinalRinkModel", "ranksBefore", "(II)Z"⟩, 19), (⟨"OrdinalRinkModel", "started", "(I)I"⟩, 19), (⟨"OrdinalRinkModel", "writeNumber", "(I)V"⟩, 19)]
theorem lw_r3 : ∀ q ∈ lw_privs_3, lw_okq q := List.forall_mem_cons.mpr ⟨lw_p32, List.forall_mem_cons.mpr ⟨lw_p33, List.forall_mem_cons.mpr ⟨lw_p34, List.forall_mem_cons.mpr ⟨lw_p35, List.forall_mem_cons.mpr ⟨lw_p36, List.forall_mem_cons.mpr ⟨lw_p37, List.forall_mem_cons.mpr ⟨lw_p38, List.forall_mem_cons.mpr ⟨lw_p39, List.forall_mem_cons.mpr ⟨lw_p40, List.forall_mem_cons.mpr ⟨lw_p41, List.forall_mem_cons.mpr ⟨lw_p42, List.forall_mem_cons.mpr ⟨lw_p43, List.forall_mem_cons.mpr ⟨lw_p44, List.forall_mem_cons.mpr ⟨lw_p45, List.forall_mem_cons.mpr ⟨lw_p46, List.forall_mem_cons.mpr ⟨lw_p47, fun _ h => absurd h List.not_mem_nil⟩⟩⟩⟩⟩⟩⟩⟩⟩⟩⟩⟩⟩⟩⟩⟩
theorem lw_p48 : lw_okq (⟨"OrdinalRinkModel", "read", "(I)I"⟩, 19) := ⟨⟨by decide +kernel, by decide +kernel⟩, List.mem_of_getElem? (i := 855) (by decide +kernel), List.mem_of_getElem? (i := 1081) (by decide +kernel), List.mem_of_getElem? (i := 1082) (by decide +kernel)⟩
def lw_privs_4 : List (MethodName × Nat) := [(⟨"OrdinalRinkModel", "read", "(I)I"⟩, 19)]
theorem lw_r4 : ∀ q ∈ lw_privs_4, lw_okq q := List.forall_mem_cons.mpr ⟨lw_p48, fun _ h => absurd h List.not_mem_nil⟩
def lw_privs : List (MethodName × Nat) := lw_privs_1 ++ (lw_privs_2 ++ (lw_privs_3 ++ (lw_privs_4)))
def lw_tbl : List Cond := k2_sels lw_privs ++ tables_1
theorem lw_privs_ok : ∀ q ∈ lw_privs, lw_okq q := by
  show ∀ q ∈ lw_privs_1 ++ (lw_privs_2 ++ (lw_privs_3 ++ (lw_privs_4))), lw_okq q
  exact List.forall_mem_append.mpr ⟨lw_r1, List.forall_mem_append.mpr ⟨lw_r2, List.forall_mem_append.mpr ⟨lw_r3, lw_r4⟩⟩⟩
end
section
/-! An abstract machine over one memory: values are mathematical integers and handles; its steps are read off the bytecode; what it says is carried to the machine by soundness (below). -/
abbrev rk_V : Type := Int ⊕ ((Nat × Int × Int) ⊕ (Int ⊕ Unit))
abbrev rk_M : Type := Nat → Int → Int → Int → Int
abbrev rk_i (x : Int) : rk_V := .inl x
abbrev rk_r (t : Nat) (o r : Int) : rk_V := .inr (.inl (t, o, r))
abbrev rk_l (x : Int) : rk_V := .inr (.inr (.inl x))
abbrev rk_u : rk_V := .inr (.inr (.inr ()))
/-- an outcome: a value or nothing returned, or an exception of the class of that number thrown -/
abbrev rk_Z : Type := Option rk_V ⊕ Nat
/-- what a tag is: kind, length or class, fields or components, how many objects, how many rows -/
abbrev rk_N : Type := Nat × Nat × List Nat × Int × Int
def rk_up (M : rk_M) (t : Nat) (o r j v : Int) : rk_M := fun t' o' r' j' => if t' = t ∧ o' = o ∧ r' = r ∧ j' = j then v else M t' o' r' j'
def rk_rg (x : Int) : Prop := -2147483648 ≤ x ∧ x ≤ 2147483647
/-- tags: 2 rink, 3 its segments, 4 page, 5 text, 6 reader, 7 its numbers; 10 segment, 11 .. 23 its arrays; 30 reference, 31 .. 44 its arrays; 50 out, 51 script -/
def rk_k0 : List rk_N := [
  (0, 0, [], 0, 0), (0, 0, [], 0, 0),
  (1, 0, [3, 4, 5, 6, 0, 0], 1, 1), (4, 3, [10, 1], 1, 1), (6, 0, [], 1, 1), (6, 0, [], 1, 1), (1, 1, [7], 1, 1), (2, 6, [], 1, 1), (0, 0, [], 0, 0), (0, 0, [], 0, 0),
  (1, 2, [0, 0, 1, 0, 0, 11, 12, 13, 15, 17, 19, 20, 22], 3, 1), (3, 10, [], 3, 1), (3, 9, [], 3, 1), (4, 9, [14, 0], 3, 1), (2, 10, [], 3, 9), (4, 9, [16, 0], 3, 1), (2, 10, [], 3, 9), (4, 2, [18, 0], 3, 1), (2, 10, [], 3, 2), (2, 10, [], 3, 1),
  (4, 9, [21, 0], 3, 1), (2, 10, [], 3, 9), (4, 5, [23, 0], 3, 1), (2, 10, [], 3, 5), (0, 0, [], 0, 0), (0, 0, [], 0, 0), (0, 0, [], 0, 0), (0, 0, [], 0, 0), (0, 0, [], 0, 0), (0, 0, [], 0, 0),
  (1, 3, [0, 0, 0, 31, 32, 33, 34, 35, 36, 37, 38, 39, 40, 41, 0, 42, 43, 0, 44], 1, 1), (3, 270, [], 1, 1), (2, 270, [], 1, 1), (2, 270, [], 1, 1), (2, 60, [], 1, 1), (3, 27, [], 1, 1), (2, 3, [], 1, 1), (2, 3, [], 1, 1), (3, 3, [], 1, 1), (2, 10, [], 1, 1),
  (2, 90, [], 1, 1), (2, 40, [], 1, 1), (2, 40, [], 1, 1), (2, 6, [], 1, 1), (2, 60, [], 1, 1), (0, 0, [], 0, 0), (0, 0, [], 0, 0), (0, 0, [], 0, 0), (0, 0, [], 0, 0), (0, 0, [], 0, 0),
  (5, 1, [], 1, 1)]
def rk_kl (L : Nat) : List rk_N := rk_k0 ++ [(7, L, [], 1, 1)]
def rk_kd (L : Nat) (t : Nat) : rk_N := (rk_kl L).getD t (0, 0, [], 0, 0)
/-- the method: its code, its fields by their numbers, its callees, where it throws, its handlers, where the walk stops, what it returns, what it may make -/
abbrev rk_F : Type := Nat × (List rk_V → rk_M → Prop) × (List rk_V → rk_M → rk_Z → rk_M → Prop) × Nat
abbrev rk_C : Type := (Nat → Option (Jvm.ClassFile.Instr × Nat)) × (Nat → Option (Nat × Nat × Int)) × (Nat → Option rk_F) × (Nat → Option Nat) × (Nat → Nat → Option Nat) × List Nat × Nat × Nat
abbrev rk_C.code (C : rk_C) : Nat → Option (Jvm.ClassFile.Instr × Nat) := C.1
abbrev rk_C.fld (C : rk_C) : Nat → Option (Nat × Nat × Int) := C.2.1
abbrev rk_C.call (C : rk_C) : Nat → Option rk_F := C.2.2.1
abbrev rk_C.thr (C : rk_C) : Nat → Option Nat := C.2.2.2.1
abbrev rk_C.hdl (C : rk_C) : Nat → Nat → Option Nat := C.2.2.2.2.1
abbrev rk_C.stops (C : rk_C) : List Nat := C.2.2.2.2.2.1
abbrev rk_C.ret (C : rk_C) : Nat := C.2.2.2.2.2.2.1
abbrev rk_C.most (C : rk_C) : Nat := C.2.2.2.2.2.2.2
abbrev rk_G : Type := rk_M → Nat → List rk_V → List rk_V → Nat → Prop
abbrev rk_Q : Type := rk_Z → rk_M → Nat → Prop
def rk_tg (pc : Nat) (off : Int) : Nat := ((pc : Int) + off).toNat
def rk_lo (al : List rk_V) (k : Nat) (g : Int → Prop) : Prop := match al[k]? with
  | some (.inl x) => g x
  | _ => False
def rk_so (al : List rk_V) (k : Nat) (v : rk_V) (g : List rk_V → Prop) : Prop := match al[k]? with
  | some _ => g (al.set k v)
  | none => False
def rk_la (al : List rk_V) (k : Nat) (g : Nat × Int × Int → Prop) : Prop := match al[k]? with
  | some (.inr (.inl h)) => g h
  | _ => False
/-- behind a call -/
def rk_bk (C : rk_C) (go : rk_G) (Qr : rk_Q) (pc : Nat) (al rest : List rk_V) (κ : Nat) (z : rk_Z) (M : rk_M) : Prop := match z with
  | .inl none => go M (pc + 3) al rest κ
  | .inl (some v) => go M (pc + 3) al (v :: rest) κ
  | .inr x => match C.hdl pc x with
    | none => Qr (.inr x) M κ
    | some h => ∀ a : Int, go M h al [rk_r 0 a 0] κ
def rk_cl (C : rk_C) (go : rk_G) (Qr : rk_Q) (idx : Nat) (M : rk_M) (pc : Nat) (al st : List rk_V) (κ : Nat) : Prop := match C.call idx with
  | none => False
  | some (n, pre, post, mc) => match Nat.ble n st.length && Nat.ble (st.length - n) 4 with
    | false => False
    | true => pre (st.take n).reverse M ∧ κ + mc ≤ C.most ∧ ∀ z M', post (st.take n).reverse M z M' → rk_bk C go Qr pc al (st.drop n) (κ + mc) z M'
def rk_if (c : Jvm.ClassFile.Cond) (x y : Int) (A B : Prop) : Prop := match c with
  | .eq => (x = y → A) ∧ (x ≠ y → B)
  | .ne => (x ≠ y → A) ∧ (x = y → B)
  | .lt => (x < y → A) ∧ (y ≤ x → B)
  | .ge => (y ≤ x → A) ∧ (x < y → B)
  | .gt => (y < x → A) ∧ (x ≤ y → B)
  | .le => (x ≤ y → A) ∧ (y < x → B)
/-- a return: of a truth value, of a character, of an int -/
def rk_rt (C : rk_C) (x : Int) (A : Prop) : Prop := match C.ret with
  | 1 => A
  | 2 => (x = 0 ∨ x = 1) ∧ A
  | 3 => (0 ≤ x ∧ x < 65536) ∧ A
  | _ => False
/-- what a check guards -/
def rk_gd (b : Bool) (P : Prop) : Prop := match b with
  | true => P
  | false => False
theorem rk_gd_of {a b : Nat} {P : Prop} (h : rk_gd (Nat.beq a b) P) : a = b ∧ P := by
  unfold rk_gd at h
  split at h
  · rename_i hb
    exact ⟨Nat.eq_of_beq_eq_true hb, h⟩
  · exact h.elim
/-- one instruction -/
def rk_st (C : rk_C) (L : Nat) (go : rk_G) (Qr : rk_Q) (i : Jvm.ClassFile.Instr) (M : rk_M) (pc : Nat) (al st : List rk_V) (κ : Nat) : Prop := match i with
  | .iconst x => go M (pc + 1) al (rk_i x :: st) κ
  | .bipush x => go M (pc + 2) al (rk_i x :: st) κ
  | .sipush x => go M (pc + 3) al (rk_i x :: st) κ
  | .iload_n k => rk_lo al k.val (fun x => go M (pc + 1) al (rk_i x :: st) κ)
  | .iload k => rk_lo al k (fun x => go M (pc + 2) al (rk_i x :: st) κ)
  | .aload_n k => rk_la al k.val (fun h => go M (pc + 1) al (.inr (.inl h) :: st) κ)
  | .aload k => rk_la al k (fun h => go M (pc + 2) al (.inr (.inl h) :: st) κ)
  | .istore_n k => match st with
    | .inl x :: r => rk_so al k.val (rk_i x) (fun al => go M (pc + 1) al r κ)
    | _ => False
  | .istore k => match st with
    | .inl x :: r => rk_so al k (rk_i x) (fun al => go M (pc + 2) al r κ)
    | _ => False
  | .astore_n k => match st with
    | .inr (.inl h) :: r => rk_so al k.val (.inr (.inl h)) (fun al => go M (pc + 1) al r κ)
    | _ => False
  | .astore k => match st with
    | .inr (.inl h) :: r => rk_so al k (.inr (.inl h)) (fun al => go M (pc + 2) al r κ)
    | _ => False
  | .iinc k x => rk_lo al k (fun y => rk_rg (y + x) ∧ go M (pc + 3) (al.set k (rk_i (y + x))) st κ)
  | .iadd => match st with
    | .inl y :: .inl x :: r => rk_rg (x + y) ∧ go M (pc + 1) al (rk_i (x + y) :: r) κ
    | _ => False
  | .isub => match st with
    | .inl y :: .inl x :: r => rk_rg (x - y) ∧ go M (pc + 1) al (rk_i (x - y) :: r) κ
    | _ => False
  | .imul => match st with
    | .inl y :: .inl x :: r => rk_rg (x * y) ∧ go M (pc + 1) al (rk_i (x * y) :: r) κ
    | _ => False
  | .idiv => match st with
    | .inl y :: .inl x :: r => (0 ≤ x ∧ 0 < y) ∧ go M (pc + 1) al (rk_i (x / y) :: r) κ
    | _ => False
  | .irem => match st with
    | .inl y :: .inl x :: r => (0 ≤ x ∧ 0 < y) ∧ go M (pc + 1) al (rk_i (x % y) :: r) κ
    | _ => False
  | .iand => match st with
    | .inl y :: .inl x :: r => y = 31 ∧ go M (pc + 1) al (rk_i (x % 32) :: r) κ
    | _ => False
  | .i2c => match st with
    | .inl x :: r => go M (pc + 1) al (rk_i (x % 65536) :: r) κ
    | _ => False
  | .i2l => match st with
    | .inl x :: r => go M (pc + 1) al (rk_l x :: r) κ
    | _ => False
  | .lcmp => match st with
    | .inr (.inr (.inl y)) :: .inr (.inr (.inl x)) :: r => (x = y → go M (pc + 1) al (rk_i 0 :: r) κ) ∧ (x < y → go M (pc + 1) al (rk_i (-1) :: r) κ) ∧ (y < x → go M (pc + 1) al (rk_i 1 :: r) κ)
    | _ => False
  | .dup => match st with
    | .inl x :: r => go M (pc + 1) al (rk_i x :: rk_i x :: r) κ
    | .inr (.inl h) :: r => go M (pc + 1) al (.inr (.inl h) :: .inr (.inl h) :: r) κ
    | _ => False
  | .dup2 => match st with
    | .inl x :: .inr (.inl h) :: r => go M (pc + 1) al (rk_i x :: .inr (.inl h) :: rk_i x :: .inr (.inl h) :: r) κ
    | _ => False
  | .pop => match st with
    | .inl x :: r => go M (pc + 1) al r κ
    | .inr (.inl h) :: r => go M (pc + 1) al r κ
    | _ => False
  | .ifCond c off => match st with
    | .inl x :: r => rk_if c x 0 (go M (rk_tg pc off) al r κ) (go M (pc + 3) al r κ)
    | _ => False
  | .if_icmp c off => match st with
    | .inl y :: .inl x :: r => rk_if c x y (go M (rk_tg pc off) al r κ) (go M (pc + 3) al r κ)
    | _ => False
  | .goto off => go M (rk_tg pc off) al st κ
  | .getfield idx => match C.fld idx with
    | none => False
    | some (ci, k, z) => match st with
      | .inr (.inl (t, o, r)) :: rest => match rk_kd L t with
        | (1, ci', fs, _, _) => rk_gd (Nat.beq ci' ci) (match fs[k]? with
          | none => False
          | some 0 => go M (pc + 3) al (rk_i (M t o r z) :: rest) κ
          | some 1 => go M (pc + 3) al (rk_i (M t o r z) :: rest) κ
          | some f => go M (pc + 3) al (rk_r f o 0 :: rest) κ)
        | _ => False
      | _ => False
  | .putfield idx => match C.fld idx with
    | none => False
    | some (ci, k, z) => match st with
      | .inl v :: .inr (.inl (t, o, r)) :: rest => match rk_kd L t with
        | (1, ci', fs, _, _) => rk_gd (Nat.beq ci' ci) (match fs[k]? with
          | some 0 => go (rk_up M t o r z v) (pc + 3) al rest κ
          | some 1 => (v = 0 ∨ v = 1) ∧ go (rk_up M t o r z v) (pc + 3) al rest κ
          | _ => False)
        | _ => False
      | _ => False
  | .iaload => match st with
    | .inl j :: .inr (.inl (t, o, r)) :: rest => match rk_kd L t with
      | (2, n, _, _, _) => (0 ≤ j ∧ j < n) ∧ go M (pc + 1) al (rk_i (M t o r j) :: rest) κ
      | (7, n, _, _, _) => (0 ≤ j ∧ j < n) ∧ go M (pc + 1) al (rk_i (M t o r j) :: rest) κ
      | _ => False
    | _ => False
  | .iastore => match st with
    | .inl v :: .inl j :: .inr (.inl (t, o, r)) :: rest => match rk_kd L t with
      | (2, n, _, _, _) => (0 ≤ j ∧ j < n) ∧ go (rk_up M t o r j v) (pc + 1) al rest κ
      | _ => False
    | _ => False
  | .baload => match st with
    | .inl j :: .inr (.inl (t, o, r)) :: rest => match rk_kd L t with
      | (3, n, _, _, _) => (0 ≤ j ∧ j < n) ∧ go M (pc + 1) al (rk_i (M t o r j) :: rest) κ
      | _ => False
    | _ => False
  | .bastore => match st with
    | .inl v :: .inl j :: .inr (.inl (t, o, r)) :: rest => match rk_kd L t with
      | (3, n, _, _, _) => (0 ≤ j ∧ j < n) ∧ (v = 0 ∨ v = 1) ∧ go (rk_up M t o r j v) (pc + 1) al rest κ
      | _ => False
    | _ => False
  | .laload => match st with
    | .inl j :: .inr (.inl (t, o, r)) :: rest => match rk_kd L t with
      | (5, n, _, _, _) => (0 ≤ j ∧ j < n) ∧ go M (pc + 1) al (rk_l (M t o r j) :: rest) κ
      | _ => False
    | _ => False
  | .lastore => match st with
    | .inr (.inr (.inl v)) :: .inl j :: .inr (.inl (t, o, r)) :: rest => match rk_kd L t with
      | (5, n, _, _, _) => (0 ≤ j ∧ j < n) ∧ go (rk_up M t o r j v) (pc + 1) al rest κ
      | _ => False
    | _ => False
  | .aaload => match st with
    | .inl j :: .inr (.inl (t, o, r)) :: rest => match rk_kd L t with
      | (4, n, [t', 0], _, _) => (0 ≤ j ∧ j < n) ∧ go M (pc + 1) al (rk_r t' o j :: rest) κ
      | (4, n, [t', 1], _, _) => (0 ≤ j ∧ j < n) ∧ go M (pc + 1) al (rk_r t' j 0 :: rest) κ
      | _ => False
    | _ => False
  | .arraylength => match st with
    | .inr (.inl (t, _, _)) :: rest => match rk_kd L t with
      | (2, n, _, _, _) => go M (pc + 1) al (rk_i n :: rest) κ
      | (7, n, _, _, _) => go M (pc + 1) al (rk_i n :: rest) κ
      | _ => False
    | _ => False
  | .invokevirtual idx => rk_cl C go Qr (2 * idx) M pc al st κ
  | .invokestatic idx => rk_cl C go Qr (2 * idx + 1) M pc al st κ
  | .new _ => match st with
    | [] => match C.thr pc with
      | none => False
      | some x => κ + 1 ≤ C.most ∧ Qr (.inr x) M (κ + 1)
    | _ => False
  | .tableswitch d lo hi offs => match st with
    | .inl x :: r => ((x < lo ∨ hi < x) → go M (rk_tg pc d) al r κ) ∧ ∀ k : Nat, x = lo + k → x ≤ hi → match offs[k]? with
      | none => False
      | some off => go M (rk_tg pc off) al r κ
    | _ => False
  | .ireturn => match st with
    | [.inl x] => rk_rt C x (Qr (.inl (some (rk_i x))) M κ)
    | _ => False
  | .areturn => match st with
    | [.inr (.inl h)] => C.ret = 4 ∧ Qr (.inl (some (.inr (.inl h)))) M κ
    | _ => False
  | .return_ => match st with
    | [] => C.ret = 0 ∧ Qr (.inl none) M κ
    | _ => False
  | _ => False
/-- the walk from pc, till a return, a throw, or a place where it stops -/
def rk_wp (C : rk_C) (L : Nat) (G : rk_G) (Qr : rk_Q) : Nat → rk_G
  | 0 => G
  | n + 1 => fun M pc al st κ => match C.code pc with
    | none => False
    | some i => rk_st C L (fun M pc al st κ => if C.stops.contains pc = true then G M pc al st κ else rk_wp C L G Qr n M pc al st κ) Qr i.1 M pc al st κ
end
section
/-! The memory in the heap: where each handle lies, what its cell holds. -/
abbrev rk_E : Type := (Nat → Int → Int → Nat) × va_G × (Nat → ClassId) × Nat × (Nat → Bool) × Nat × State
abbrev rk_E.ad (E : rk_E) : Nat → Int → Int → Nat := E.1
abbrev rk_E.D (E : rk_E) : va_G := E.2.1
abbrev rk_E.ac (E : rk_E) : Nat → ClassId := E.2.2.1
abbrev rk_E.n0 (E : rk_E) : Nat := E.2.2.2.1
abbrev rk_E.pr (E : rk_E) : Nat → Bool := E.2.2.2.2.1
abbrev rk_E.L (E : rk_E) : Nat := E.2.2.2.2.2.1
abbrev rk_E.s0 (E : rk_E) : State := E.2.2.2.2.2.2
def rk_vh (E : rk_E) (t : Nat) (o r : Int) : Prop := E.pr t = true ∧ 0 ≤ o ∧ o < (rk_kd E.L t).2.2.2.1 ∧ 0 ≤ r ∧ r < (rk_kd E.L t).2.2.2.2
def rk_vl (E : rk_E) (v : rk_V) : Value := match v with
  | .inl x => .int (Int32.ofInt x)
  | .inr (.inl h) => .ref (if h.1 = 0 then h.2.1.toNat else E.ad h.1 h.2.1 h.2.2)
  | .inr (.inr (.inl x)) => .long (Int64.ofInt x)
  | .inr (.inr (.inr _)) => .null
def rk_ok (E : rk_E) (v : rk_V) : Prop := match v with
  | .inl x => rk_rg x
  | .inr (.inl h) => h.1 = 0 ∨ rk_vh E h.1 h.2.1 h.2.2
  | .inr (.inr (.inl x)) => rk_rg x
  | .inr (.inr (.inr _)) => True
def rk_fv (E : rk_E) (M : rk_M) (t : Nat) (o r : Int) (fs : List Nat) (k : Nat) : Value := if fs.getD k 0 ≤ 1 then .int (Int32.ofInt (M t o r k)) else .ref (E.ad (fs.getD k 0) o 0)
/-- a builder: its object, its bytes at b -/
def rk_sb (E : rk_E) (cl : List vw_C) (b : Nat) (M : rk_M) (H : Heap) (t : Nat) : Prop :=
  ∃ (q : vw_C) (bC A : Cell), cl[4]? = some q ∧ (H[E.ad t 0 0]? = some bC ∧ H[b]? = some A) ∧ (bC.cls = E.D.1 4 ∧ bC.vm = .none ∧ (∀ k, k < 4 → E.D.2 4 k < bC.slots.size) ∧ bC.slots[E.D.2 4 0]? = some (.ref b) ∧ bC.slots[E.D.2 4 1]? = some (.int 0)) ∧
    (A.cls = E.ac 7 ∧ A.vm ≠ .unknown ∧ (∀ k, A.vm ≠ .statics k) ∧ (16 ≤ A.slots.size ∧ A.slots.size ≤ 200) ∧ ∀ i, i < A.slots.size → fits .byte (A.slots.getD i .null) = true) ∧
    bC.slots[E.D.2 4 3]? = some (.int (Int32.ofInt (M t 0 0 0))) ∧ 0 ≤ M t 0 0 0 ∧ M t 0 0 0 ≤ 60 ∧ M t 0 0 0 ≤ A.slots.size ∧
    ∀ j : Nat, (j : Int) < M t 0 0 0 → 0 ≤ M t 0 0 (1 + j) ∧ M t 0 0 (1 + j) < 256 ∧ A.slots[j]? = some (.int (sb_b (M t 0 0 (1 + j)).toNat))
def rk_at (E : rk_E) (cl : List vw_C) (s : State) (B : Nat → Nat) (M : rk_M) (H : Heap) (t : Nat) (o r : Int) (e : rk_N) : Prop := match e with
  | (1, ci, fs, _, _) => ∃ q : vw_C, cl[ci]? = some q ∧ q.2.2 = fs.length ∧ t_OB (E.ad t o r) (E.D.1 ci) q.2.2 (E.D.2 ci) H (rk_fv E M t o r fs)
  | (2, n, _, _, _) => H[E.ad t o r]? = some (arrV (E.ac 2) n (fun j => .int (Int32.ofInt (M t o r j))))
  | (3, n, _, _, _) => H[E.ad t o r]? = some (arrV (E.ac 3) n (fun j => .int (Int32.ofInt (M t o r j))))
  | (4, n, [t', 0], _, _) => H[E.ad t o r]? = some (arrV (E.ac 4) n (fun j => .ref (E.ad t' o j)))
  | (4, n, [t', 1], _, _) => H[E.ad t o r]? = some (arrV (E.ac 6) n (fun j => .ref (E.ad t' j 0)))
  | (5, n, _, _, _) => H[E.ad t o r]? = some (arrV (E.ac 5) n (fun j => .long (Int64.ofInt (M t o r j))))
  | (6, _, _, _, _) => o = 0 ∧ r = 0 ∧ rk_sb E cl (B t) M H t
  | (7, n, _, _, _) => va_X (E.ad t o r) n (fun j => Int32.ofInt (M t o r j)) s H
  | _ => True
theorem rk_at.kept {E : rk_E} {cl : List vw_C} {s : State} {B : Nat → Nat} {M M' : rk_M} {H H' : Heap} {t : Nat} {o r : Int} {e : rk_N} (h : rk_at E cl s B M H t o r e) (ha : H'[E.ad t o r]? = H[E.ad t o r]?) (hb : e.1 = 6 → H'[B t]? = H[B t]?) (hm : ∀ j, M' t o r j = M t o r j) : rk_at E cl s B M' H' t o r e := by
  unfold rk_at at h ⊢
  split at h
  · obtain ⟨q, h1, h2, h3⟩ := h
    exact ⟨q, h1, h2, (h3.kept ha).to (fun k _ => by simp only [rk_fv, hm])⟩
  · simp only [hm, ha]; exact h
  · simp only [hm, ha]; exact h
  · rw [ha]; exact h
  · rw [ha]; exact h
  · simp only [hm, ha]; exact h
  · obtain ⟨rfl, rfl, q, bC, A, h1, h2, h3, h4, h5⟩ := h
    refine ⟨rfl, rfl, q, bC, A, h1, ⟨by rw [ha]; exact h2.1, by rw [hb rfl]; exact h2.2⟩, h3, h4, ?_⟩
    simp only [hm]; exact h5
  · simp only [hm]; exact h.kept ha
  · trivial
/-- no two handles lie at one place; all lie among the new cells but the script; what a cell refers to is there -/
def rk_O (E : rk_E) : Prop :=
  (∀ t o r t' o' r', rk_vh E t o r → rk_vh E t' o' r' → E.ad t o r = E.ad t' o' r' → t = t' ∧ o = o' ∧ r = r') ∧ (∀ t o r, rk_vh E t o r → (rk_kd E.L t).1 ≠ 7 → E.n0 ≤ E.ad t o r) ∧ E.pr 0 = false ∧
  (∀ t f, E.pr t = true → (rk_kd E.L t).1 = 1 → f ∈ (rk_kd E.L t).2.2.1 → 2 ≤ f → E.pr f = true ∧ (rk_kd E.L f).2.2.2.1 = (rk_kd E.L t).2.2.2.1 ∧ (rk_kd E.L f).2.2.2.2 = 1) ∧
  (∀ t n t' o r, E.pr t = true → rk_kd E.L t = (4, n, [t', 0], o, r) → E.pr t' = true ∧ (rk_kd E.L t').2.2.2.1 = o ∧ (rk_kd E.L t').2.2.2.2 = n) ∧
  (∀ t n t' o r, E.pr t = true → rk_kd E.L t = (4, n, [t', 1], o, r) → E.pr t' = true ∧ (rk_kd E.L t').2.2.2.1 = n ∧ (rk_kd E.L t').2.2.2.2 = 1)
/-- where the builders' bytes lie -/
def rk_B (E : rk_E) (B : Nat → Nat) : Prop := (∀ t, E.pr t = true → (rk_kd E.L t).1 = 6 → E.n0 ≤ B t ∧ ∀ t' o r, rk_vh E t' o r → E.ad t' o r ≠ B t) ∧ ∀ t t', E.pr t = true → E.pr t' = true → (rk_kd E.L t).1 = 6 → (rk_kd E.L t').1 = 6 → B t = B t' → t = t'
def rk_H (E : rk_E) (cl : List vw_C) (s : State) (M : rk_M) (H : Heap) : Prop := (∀ t o r j, rk_rg (M t o r j)) ∧ ∃ B, rk_B E B ∧ ∀ t o r, rk_vh E t o r → rk_at E cl s B M H t o r (rk_kd E.L t)
theorem rk_H.put {E : rk_E} {cl : List vw_C} {s : State} {M M' : rk_M} {H H' : Heap} {t : Nat} {o r : Int} (hO : rk_O E) (h : rk_H E cl s M H) (hv : rk_vh E t o r) (h6 : (rk_kd E.L t).1 ≠ 6) (hm : ∀ t' o' r' j, ¬ (t' = t ∧ o' = o ∧ r' = r) → M' t' o' r' j = M t' o' r' j) (hrg : ∀ j, rk_rg (M' t o r j))
    (hself : ∀ B, rk_at E cl s B M H t o r (rk_kd E.L t) → rk_at E cl s B M' H' t o r (rk_kd E.L t)) (ho : ∀ q, q ≠ E.ad t o r → H'[q]? = H[q]?) : rk_H E cl s M' H' := by
  obtain ⟨h1, B, hB, h2⟩ := h
  refine ⟨fun t' o' r' j => ?_, B, hB, fun t' o' r' hv' => ?_⟩
  · by_cases hz : t' = t ∧ o' = o ∧ r' = r
    · obtain ⟨rfl, rfl, rfl⟩ := hz
      exact hrg j
    · rw [hm _ _ _ _ hz]; exact h1 _ _ _ _
  · by_cases hz : t' = t ∧ o' = o ∧ r' = r
    · obtain ⟨rfl, rfl, rfl⟩ := hz
      exact hself B (h2 _ _ _ hv')
    · refine (h2 _ _ _ hv').kept (ho _ fun q => hz (hO.1 _ _ _ _ _ _ hv' hv q)) (fun h6' => ho _ fun q => ?_) (fun j => hm _ _ _ _ hz)
      exact (hB.1 t' hv'.1 h6').2 t o r hv q.symm
/-- what the tables say of the classes and the arrays -/
def rk_T (E : rk_E) (cl : List vw_C) (s : State) : Prop := (∀ (c : Nat) (q : vw_C), cl[c]? = some q → u_Kn s q.1 q.2.1 q.2.2 (E.D.1 c) (E.D.2 c) ∧ ∀ x y, x < q.2.2 → y < q.2.2 → x ≠ y → E.D.2 c x ≠ E.D.2 c y) ∧
  ArrOfT s (E.ac 2) .int ∧ ArrOfT s (E.ac 3) .boolean ∧ ArrOfT s (E.ac 4) (.array .int) ∧ ArrOfT s (E.ac 5) .long ∧ (∃ C, ArrOfT s (E.ac 6) (.object C)) ∧ ArrOfT s (E.ac 7) .byte ∧ s.vm.findClass "[B" = some (E.ac 7)
theorem rk_T.moved {E : rk_E} {cl : List vw_C} {s U : State} (hvm : s.vm.Alike U.vm) (h : rk_T E cl s) : rk_T E cl U := by
  obtain ⟨h1, h2, h3, h4, h5, ⟨C, h6⟩, h7, h8⟩ := h
  exact ⟨fun c q hq => ⟨u_Kn_moved hvm (h1 c q hq).1, (h1 c q hq).2⟩, arrOfT_moved hvm h2, arrOfT_moved hvm h3, arrOfT_moved hvm h4, arrOfT_moved hvm h5, ⟨C, arrOfT_moved hvm h6⟩, arrOfT_moved hvm h7, by rw [hvm.findClass]; exact h8⟩
theorem rk_at.moved {E : rk_E} {cl : List vw_C} {s U : State} {B : Nat → Nat} {M : rk_M} {H : Heap} {t : Nat} {o r : Int} {e : rk_N} (hvm : s.vm.Alike U.vm) (h : rk_at E cl s B M H t o r e) : rk_at E cl U B M H t o r e := by
  unfold rk_at at h ⊢
  split at h <;> first | exact h | exact h.moved hvm
theorem rk_H.moved {E : rk_E} {cl : List vw_C} {s U : State} {M : rk_M} {H : Heap} (hvm : s.vm.Alike U.vm) (h : rk_H E cl s M H) : rk_H E cl U M H := by
  obtain ⟨h1, B, hB, h2⟩ := h
  exact ⟨h1, B, hB, fun t o r hv => (h2 t o r hv).moved hvm⟩
/-- locals -/
def rk_en (E : rk_E) : Nat → List rk_V → List (Nat × Value)
  | _, [] => []
  | i, v :: vs => match v with
    | .inr (.inr (.inr _)) => rk_en E (i + 1) vs
    | _ => (i, rk_vl E v) :: rk_en E (i + 1) vs
theorem rk_en_in {E : rk_E} {v : rk_V} (hv : v ≠ rk_u) : ∀ (al : List rk_V) (i k : Nat), al[k]? = some v → (i + k, rk_vl E v) ∈ rk_en E i al
  | [], _, _, h => by simp at h
  | w :: vs, i, 0, h => by
    have hw : w = v := by simpa using h
    subst hw
    unfold rk_en
    split
    · exact absurd rfl hv
    · exact List.mem_cons_self
  | w :: vs, i, k + 1, h => by
    have h' := rk_en_in (E := E) hv vs (i + 1) k (by simpa using h)
    have e : i + 1 + k = i + (k + 1) := by omega
    rw [e] at h'
    unfold rk_en
    split
    · exact h'
    · exact List.mem_cons_of_mem _ h'
theorem rk_en_of {E : rk_E} : ∀ (al : List rk_V) (i : Nat) (q : Nat × Value), q ∈ rk_en E i al → ∃ (k : Nat) (v : rk_V), al[k]? = some v ∧ v ≠ rk_u ∧ q = (i + k, rk_vl E v)
  | [], _, _, h => by simp [rk_en] at h
  | w :: vs, i, q, h => by
    have hrec : q ∈ rk_en E (i + 1) vs → ∃ (k : Nat) (v : rk_V), (w :: vs)[k]? = some v ∧ v ≠ rk_u ∧ q = (i + k, rk_vl E v) := fun hq => by
      obtain ⟨k, v, h1, h2, h3⟩ := rk_en_of vs (i + 1) q hq
      exact ⟨k + 1, v, by simpa using h1, h2, by rw [h3]; congr 1; omega⟩
    unfold rk_en at h
    split at h
    · exact hrec h
    · rename_i hne
      rcases List.mem_cons.mp h with h | h
      · exact ⟨0, w, rfl, fun q => hne () q, h⟩
      · exact hrec h
def rk_L (E : rk_E) (al : List rk_V) (ls : Array Slot) : Prop := lv_has ls al.length (rk_en E 0 al) ∧ ∀ (k : Nat) (v : rk_V), al[k]? = some v → rk_ok E v ∧ ((rk_vl E v).category = 1)
theorem rk_L.get {E : rk_E} {al : List rk_V} {ls : Array Slot} {k : Nat} {v : rk_V} (h : rk_L E al ls) (hk : al[k]? = some v) (hv : v ≠ rk_u) : ls[k]? = some (.val (rk_vl E v)) := by
  have h1 := h.1.2.2 _ (rk_en_in (E := E) hv al 0 k hk)
  simpa using h1
theorem rk_L.set {E : rk_E} {al : List rk_V} {ls ls' : Array Slot} {k : Nat} {v : rk_V} (h : rk_L E al ls) (hv : rk_ok E v) (hc : (rk_vl E v).category = 1)
    (h' : lv_has ls' al.length ((k, rk_vl E v) :: (rk_en E 0 al).filter (fun q => !(q.1 == k) && !(q.1 + 1 == k && q.2.category == 2)))) : rk_L E (al.set k v) ls' := by
  refine ⟨⟨by rw [List.length_set]; exact h'.1, h'.2.1, fun q hq => ?_⟩, fun j w hj => ?_⟩
  · obtain ⟨j, w, h1, h2, rfl⟩ := rk_en_of _ _ _ hq
    rw [List.getElem?_set] at h1
    by_cases hjk : k = j
    · rw [if_pos hjk] at h1
      by_cases hl : k < al.length
      · rw [if_pos hl] at h1
        cases h1
        subst hjk
        have h3 := h'.2.2 (k, rk_vl E v) List.mem_cons_self
        simpa using h3
      · rw [if_neg hl] at h1; cases h1
    · rw [if_neg hjk] at h1
      refine h'.2.2 _ (List.mem_cons_of_mem _ (List.mem_filter.mpr ⟨rk_en_in h2 al 0 j h1, ?_⟩))
      have hc1 := (h.2 j w h1).2
      simp [hc1, Ne.symm hjk]
  · rw [List.getElem?_set] at hj
    by_cases hjk : k = j
    · rw [if_pos hjk] at hj
      by_cases hl : k < al.length
      · rw [if_pos hl] at hj; cases hj; exact ⟨hv, hc⟩
      · rw [if_neg hl] at hj; cases hj
    · rw [if_neg hjk] at hj; exact h.2 j w hj
end
section
/-! What the tables say, carried along -/
def rk_nw : Cond → Bool
  | .fieldLinkNest .. => true
  | .methodLinkNest .. => true
  | _ => false
def rk_TB (U : State) : Prop := ∀ w ∈ lw_tbl, (goodWord w = true ∨ rk_nw w = true ∨ (∃ x y z, w = .stringRef x y z) ∨ (w.onTables && w.keepsFace) = true) → ∀ a : Array Value, w.before a U = true
theorem rk_strSame {x z : String} {y : Nat} {a : Array Value} {u U : State} (hv : U.vm = u.vm) (h : (Cond.stringRef x y z).before a u = true) : (Cond.stringRef x y z).before a U = true := by
  simp only [Cond.before, Cond.holds, Cond.value, State.names, State.poolOf?, State.resolvedAt?, hv] at h ⊢
  exact h
theorem rk_TB.warm {s U : State} (hW : s.WarmedH U.vm) (h : rk_TB s) : rk_TB U := by
  intro w hw hg a
  have h0 := h w hw hg
  rcases hg with h1 | h1 | ⟨x, y, z, rfl⟩ | h1
  · exact word_at hW (good_of_word h1) (h0 a)
  · cases w with
    | fieldLinkNest a1 b1 c1 d1 e1 f1 => exact va_Nw.use rfl (va_Nw.warmF hW (va_Nw.of (A := a) rfl (h0 a)))
    | methodLinkNest a1 b1 c1 d1 => exact va_Nw.use rfl (va_Nw.warmM hW (va_Nw.of (A := a) rfl (h0 a)))
    | _ => cases h1
  · exact rk_strSame (u := s.setVm U.vm) rfl (Cond.stringRef_warmed hW (h0 a))
  · simp only [Bool.and_eq_true] at h1
    exact va_tabs h1.1 (rfl : (s.setVm U.vm).vm = U.vm) (Cond.before_shiftedFace (State.Shifted.of_warmed hW) w h1.2 (h0 a))
/-! Calls that may end in a throw; a contract of either end. -/
def rk_aft (U : State) (g : JFrame) (len : Nat) (o : Outcome) : State := match o with
  | .returned v => U.setTop { g with pc := g.pc + len, stack := v.toList ++ g.stack }
  | .threw x => (U.setTop g).pushFrame (.throwing x)
def rk_Met (l : Launch) (y : MethodName) (ws : List Cond) (rm : Room) (Pc : Array Value → State → Prop) (Qc : Array Value → State → Outcome → State → Prop) (mc ms : Nat) (free : Addr → Prop) : Prop :=
  MetFree l y (headSpec ws rm) Pc (fun _ _ _ _ _ => True) (fun a st o t => Qc a st o t ∧ st.WarmedH t.vm ∧ ∃ L, st.sameButNew ({ t with vm := st.vm } : State) L mc ms ∧ ∀ q ∈ L, free q.base)
def rk_MQ (below : List Frame) (Qc : Array Value → State → Outcome → State → Prop) (a : Array Value) (s : State) (mc ms : Nat) (free : Addr → Prop) : State → Prop := fun t =>
  ∃ o, t.status = .running ∧ Ended t below o ∧ Qc a s o t ∧ s.WarmedH t.vm ∧ ∃ L, s.sameButNew ({ t with vm := s.vm } : State) L mc ms ∧ ∀ q ∈ L, free q.base
section RKB
variable {l : Launch} {R : Room} {p : Program} {e : Env} {below : List Frame} {s : State} {sargs : Array Value} {y : MethodName} {len : Nat} {m : MethodId} {meth : Method} {c : Code} {U : State} {locs : List Loc} {cells slots : Nat}
/-- the callee's run, from the invocation's frame, to either end -/
theorem rk_any (X : Stand p l e R s m sargs below meth c U locs cells slots) {ws : List Cond} {rm : Room} {Pc : Array Value → State → Prop} {Qc : Array Value → State → Outcome → State → Prop} {mc ms : Nat} {free : Addr → Prop}
    (hM : rk_Met l y ws rm Pc Qc mc ms free) {g : JFrame} {ig : Instr} {mk : MethodId} {a : Array Value} {methY : Method} {cY : Code} {kY : Class} (hg : g.method = m) (hsize : g.locals.size = c.maxLocals) (hdg : decode c.code g.pc = .ok (ig, len))
    (hn : U.methodNamed? y = some mk) (hmY : U.vm.method? mk = some methY) (hcY : methY.code = some cY) (hkY : U.vm.classes[mk.cls]? = some kY) (hinitY : kY.init = .initialized)
    (hws : ∀ w ∈ ws, w.before a U = true) (hfr : rm.frames + 1 ≤ R.frames) (hlo : 2 * g.monitorRoom + (g.stack.map fun v => v.category).sum + (cY.maxLocals + 11) + rm.locals ≤ R.locals)
    (hc : cells + rm.cells ≤ R.cells) (hs : slots + rm.slots ≤ R.slots) (hP : Pc a (U.calling g mk a)) :
    ∃ (o : Outcome) (t V : State) (L : List Loc), Stand p l e R s m sargs below meth c V (locs ++ L) (cells + mc) (slots + ms) ∧ Qc a (U.calling g mk a) o t ∧ V.heap = t.heap ∧ V.vm = t.vm ∧ (∀ q ∈ L, free q.base) ∧
      Steps p.tables e below (doInvoke e (U.setTop g) [] mk a).1 (rk_aft V g len o) := by
  have h : At U g.method c below := by rw [hg]; exact X.here
  have happ : (headSpec ws rm).appliesLoose y e.platform (U.calling g mk a) = true :=
    Spec.appliesLoose_calling (g := g) h hdg hn hkY hinitY (X.room_calling (g := g) (R' := rm) hsize hmY hcY hfr (by omega) hc hs) (atoms_intro fun w hw => hws w hw)
  obtain ⟨mid, hmid⟩ := h.above
  have hfr2 : (U.setTop g).frames = (.java g :: mid) ++ below := by rw [State.frames_setTop' g h.top, hmid]; rfl
  obtain ⟨o, t, hsteps, -, hend, hq0⟩ := Steps.callFree hM p X.admits X.cas X.clock (acts := []) hfr2 happ hP trivial
  have hq1 : Qc a (U.calling g mk a) o t ∧ (U.calling g mk a).WarmedH t.vm ∧ ∃ L, (U.calling g mk a).sameButNew ({ t with vm := (U.calling g mk a).vm } : State) L mc ms ∧ ∀ q ∈ L, free q.base := hq0
  obtain ⟨hq, hW, L, ⟨e2, q2, q3, q4, q5, q6⟩, hL⟩ := hq1
  rw [State.frames_setTop' g h.top] at hend
  have hW' : U.WarmedH t.vm := hW
  have e3 : t = ({ (U.calling g mk a).setFrames t.frames with heap := t.heap, slotsUsed := t.slotsUsed } : State).setVm t.vm := by
    have hz : t = ({ t with vm := (U.calling g mk a).vm } : State).setVm t.vm := rfl
    rw [e2] at hz
    exact hz
  obtain ⟨g₀, hg0⟩ := Option.isSome_iff_exists.mp h.top
  obtain ⟨r, hr⟩ := State.topJava?_eq_some.mp hg0
  have hsame : U.sameButNew ({ U with heap := t.heap, slotsUsed := t.slotsUsed } : State) L mc ms := by
    refine ⟨?_, q2, q3, q4, q5, q6⟩
    obtain ⟨th, hth, -⟩ := State.frames_cons hr
    show ({ U with heap := t.heap, slotsUsed := t.slotsUsed } : State) = { U.setFrames U.frames with heap := t.heap, slotsUsed := t.slotsUsed }
    rw [State.setFrames_self hth]
  have hr' : (({ U with heap := t.heap, slotsUsed := t.slotsUsed } : State).setVm t.vm).frames = .java g₀ :: r := hr
  subst hg
  refine ⟨o, t, ({ U with heap := t.heap, slotsUsed := t.slotsUsed } : State).setVm t.vm, L,
    ⟨X.admits, X.cas, X.clock, X.frames, X.room, X.hears, X.method, X.code, (X.here.setHeapUsed t.heap t.slotsUsed).setVm hW'.alike, X.tail, State.WarmedH.trans X.warmed hW', X.limits, X.bytes, X.same.trans (hsame.setVm s.vm)⟩, hq, rfl, rfl, hL, ?_⟩
  refine (congrArg (fun z => Steps p.tables e below (doInvoke e (U.setTop g) [] mk a).1 z) ?_).mp hsteps
  cases o with
  | returned v =>
    obtain ⟨c₂, i₂, len₂, hc₂, hd₂, hf₂⟩ := hend
    have hcc : c₂ = c := by
      have h1 : t.code? g.method = U.code? g.method := by rw [State.code?_eq, State.code?_eq, hW'.alike.method?]
      exact Option.some.inj (hc₂.symm.trans (h1.trans h.code))
    subst hcc
    have hlen : len₂ = len := by rw [hdg] at hd₂; cases hd₂; rfl
    subst hlen
    refine e3.trans ?_
    show _ = (({ U with heap := t.heap, slotsUsed := t.slotsUsed } : State).setVm t.vm).setTop _
    rw [hf₂, State.calling_eq h.top, State.setFrames_setFrames, State.setTop_of_frames _ hr', hr]
    rfl
  | threw x =>
    have hf₂ : t.frames = .throwing x :: .java g :: U.frames.tail := hend
    refine e3.trans ?_
    show _ = ((({ U with heap := t.heap, slotsUsed := t.slotsUsed } : State).setVm t.vm).setTop g).pushFrame (.throwing x)
    rw [hf₂, State.calling_eq h.top, State.setFrames_setFrames, State.pushFrame, State.frames_setTop _ hr', State.setTop_of_frames _ hr', State.setFrames_setFrames, hr]
    rfl
end RKB
end
section
/-! Numbers -/
theorem rk_toI {x : Int} (h : rk_rg x) : (Int32.ofInt x).toInt = x := Int32.toInt_ofInt_of_le (by have := h.1; omega) (by have := h.2; omega)
theorem rk_lt {x y : Int} (hx : rk_rg x) (hy : rk_rg y) : Int32.ofInt x < Int32.ofInt y ↔ x < y := by rw [Int32.lt_iff_toInt_lt, rk_toI hx, rk_toI hy]
theorem rk_le {x y : Int} (hx : rk_rg x) (hy : rk_rg y) : Int32.ofInt x ≤ Int32.ofInt y ↔ x ≤ y := by rw [Int32.le_iff_toInt_le, rk_toI hx, rk_toI hy]
theorem rk_eq {x y : Int} (hx : rk_rg x) (hy : rk_rg y) : Int32.ofInt x = Int32.ofInt y ↔ x = y := by rw [← Int32.toInt_inj, rk_toI hx, rk_toI hy]
theorem rk_0 : (0 : Int32) = Int32.ofInt 0 := by decide
theorem rk_rg0 : rk_rg 0 := by unfold rk_rg; omega
theorem rk_cl0 {x : Int} (h : rk_rg x) (h0 : 0 ≤ x) : ((Int32.ofInt x).toNatClampNeg : Int) = x := by
  have h1 := rk_toI h
  show (((Int32.ofInt x).toInt.toNat : Nat) : Int) = x
  rw [h1]; omega
theorem rk_vin {x : Int} {n : Nat} (h : rk_rg x) (h0 : 0 ≤ x) (hn : x < n) : ¬ (Int32.ofInt x < 0 ∨ n ≤ (Int32.ofInt x).toNatClampNeg) := by
  have h1 := rk_cl0 h h0
  rintro (h2 | h2)
  · rw [rk_0, rk_lt h rk_rg0] at h2; omega
  · omega
theorem rk_ofN (n : Nat) : Int32.ofInt (n : Int) = nI n := by
  unfold nI
  first | rfl | exact Int32.ofInt_ofNat | simp
theorem rk_div {x y : Int} (hx : rk_rg x) (hy : rk_rg y) (h0 : 0 ≤ x) (h1 : 0 < y) : Int32.ofInt x / Int32.ofInt y = Int32.ofInt (x / y) := by
  obtain ⟨a, rfl⟩ := Int.eq_ofNat_of_zero_le h0
  obtain ⟨d, rfl⟩ := Int.eq_ofNat_of_zero_le (Int.le_of_lt h1)
  have h2 := hx.2
  have h3 := hy.2
  rw [rk_ofN, rk_ofN, pk_div (by omega) (by omega) (by omega), ← rk_ofN, Int.natCast_ediv]
theorem rk_rem {x y : Int} (hx : rk_rg x) (hy : rk_rg y) (h0 : 0 ≤ x) (h1 : 0 < y) : Int32.ofInt x - Int32.ofInt x / Int32.ofInt y * Int32.ofInt y = Int32.ofInt (x % y) := by
  obtain ⟨a, rfl⟩ := Int.eq_ofNat_of_zero_le h0
  obtain ⟨d, rfl⟩ := Int.eq_ofNat_of_zero_le (Int.le_of_lt h1)
  have h2 := hx.2
  have h3 := hy.2
  rw [rk_ofN, rk_ofN, pk_rem (by omega) (by omega) (by omega), ← rk_ofN, Int.natCast_emod]
theorem rk_bv (x : Int) : ((Int32.ofInt x).toBitVec.toNat : Int) = x % 4294967296 := by
  show (((BitVec.ofInt 32 x).toNat : Nat) : Int) = _
  rw [BitVec.toNat_ofInt]
  have : 0 ≤ x % 4294967296 := Int.emod_nonneg _ (by decide)
  omega
theorem rk_and31 (x : Int) : Int32.ofInt x &&& Int32.ofInt 31 = Int32.ofInt (x % 32) := by
  rw [pk_and (Int32.ofInt x) (m := Int32.ofInt 31) 5 (by decide)]
  have h := rk_bv x
  rw [← rk_ofN]
  congr 1
  omega
theorem rk_chr (x : Int) : ((Int32.ofInt x).toUInt32 % 65536).toInt32 = Int32.ofInt (x % 65536) := by
  rw [pk_char]
  have h := rk_bv x
  rw [← rk_ofN]
  congr 1
  omega
theorem rk_toL {x : Int} (h : rk_rg x) : (Int64.ofInt x).toInt = x := Int64.toInt_ofInt_of_le (by have := h.1; omega) (by have := h.2; omega)
theorem rk_i2l {x : Int} (h : rk_rg x) : (Int32.ofInt x).toInt64 = Int64.ofInt x := by
  rw [← Int64.toInt_inj, rk_toL h, Int32.toInt_toInt64, rk_toI h]
/-! Soundness -/
section RKW
variable {p : Program} {l : Launch} {e : Env} {R : Room} {s : State} {m : MethodId} {args : Array Value} {below : List Frame} {meth : Method} {c : Code} {Q : State → Prop}
def rk_A (p : Program) (l : Launch) (e : Env) (R : Room) (s : State) (m : MethodId) (args : Array Value) (below : List Frame) (meth : Method) (c : Code) (Q : State → Prop) (E : rk_E) (cl : List vw_C) : rk_G := fun M pc al st κ =>
  ∀ (H : Heap) (locs : List Loc) (ls : Array Slot), rk_H E cl s M H → va_S (fun q => E.n0 ≤ q) s.heap H locs → rk_L E al ls → (∀ v ∈ st, rk_ok E v) → W p l e R s m args below meth c H locs κ (200 * κ) Q (F0 m pc ls (st.map (rk_vl E)))
variable {cc : ByteArray} {E : rk_E} {cl : List vw_C} {M : rk_M} {pc : Nat} {al st rest : List rk_V} {κ : Nat}
theorem rk_okc {E : rk_E} {v : rk_V} {st : List rk_V} (h : rk_ok E v) (hs : ∀ w ∈ st, rk_ok E w) : ∀ w ∈ v :: st, rk_ok E w := fun w hw => by
  rcases List.mem_cons.mp hw with rfl | hw
  · exact h
  · exact hs w hw
theorem rk_okt {E : rk_E} {v : rk_V} {st : List rk_V} (hs : ∀ w ∈ v :: st, rk_ok E w) : rk_ok E v ∧ ∀ w ∈ st, rk_ok E w := ⟨hs v List.mem_cons_self, fun w hw => hs w (List.mem_cons_of_mem _ hw)⟩
theorem rk_s_iconst (hx : p.tables.exec = Jvm.exec) (hb : c.code = cc) {x : Int} (hd : decode cc pc = .ok (.iconst x, 1)) (hr : rk_rg x) (k : rk_A p l e R s m args below meth c Q E cl M (pc + 1) al (rk_i x :: st) κ) : rk_A p l e R s m args below meth c Q E cl M pc al st κ := fun H locs ls hH hS hL hst =>
  lv_iconst hx hb hd rfl (k H locs ls hH hS hL (rk_okc hr hst))
theorem rk_s_bipush (hx : p.tables.exec = Jvm.exec) (hb : c.code = cc) {x : Int} (hd : decode cc pc = .ok (.bipush x, 2)) (hr : -128 ≤ x ∧ x ≤ 127) (k : rk_A p l e R s m args below meth c Q E cl M (pc + 2) al (rk_i x :: st) κ) : rk_A p l e R s m args below meth c Q E cl M pc al st κ := fun H locs ls hH hS hL hst =>
  lv_bipush hx hb hd (by
    have hg : rk_rg x := ⟨by omega, by omega⟩
    rw [← Int32.toInt_inj, rk_toI hg, Int8.toInt_toInt32]
    exact Int8.toInt_ofInt_of_le (by omega) (by omega)) (k H locs ls hH hS hL (rk_okc (show rk_rg x from ⟨by omega, by omega⟩) hst))
theorem rk_s_sipush (hx : p.tables.exec = Jvm.exec) (hb : c.code = cc) {x : Int} (hd : decode cc pc = .ok (.sipush x, 3)) (hr : -32768 ≤ x ∧ x ≤ 32767) (k : rk_A p l e R s m args below meth c Q E cl M (pc + 3) al (rk_i x :: st) κ) : rk_A p l e R s m args below meth c Q E cl M pc al st κ := fun H locs ls hH hS hL hst =>
  lv_sipush hx hb hd (by
    have hg : rk_rg x := ⟨by omega, by omega⟩
    rw [← Int32.toInt_inj, rk_toI hg, Int16.toInt_toInt32]
    exact Int16.toInt_ofInt_of_le (by omega) (by omega)) (k H locs ls hH hS hL (rk_okc (show rk_rg x from ⟨by omega, by omega⟩) hst))
theorem rk_s_iload_n (hx : p.tables.exec = Jvm.exec) (hb : c.code = cc) {i : Fin 4} {x : Int} (hd : decode cc pc = .ok (.iload_n i, 1)) (hk : al[i.val]? = some (.inl x)) (k : rk_A p l e R s m args below meth c Q E cl M (pc + 1) al (rk_i x :: st) κ) : rk_A p l e R s m args below meth c Q E cl M pc al st κ := fun H locs ls hH hS hL hst =>
  lv_iload_n hx hb hd rfl (hL.get hk (fun q => by cases q)) (k H locs ls hH hS hL (rk_okc (hL.2 _ _ hk).1 hst))
theorem rk_s_iload (hx : p.tables.exec = Jvm.exec) (hb : c.code = cc) {i : Nat} {x : Int} (hd : decode cc pc = .ok (.iload i, 2)) (hk : al[i]? = some (.inl x)) (k : rk_A p l e R s m args below meth c Q E cl M (pc + 2) al (rk_i x :: st) κ) : rk_A p l e R s m args below meth c Q E cl M pc al st κ := fun H locs ls hH hS hL hst =>
  lv_iload hx hb hd (hL.get hk (fun q => by cases q)) (k H locs ls hH hS hL (rk_okc (hL.2 _ _ hk).1 hst))
theorem rk_s_aload_n (hx : p.tables.exec = Jvm.exec) (hb : c.code = cc) {i : Fin 4} {h : Nat × Int × Int} (hd : decode cc pc = .ok (.aload_n i, 1)) (hk : al[i.val]? = some (.inr (.inl h))) (k : rk_A p l e R s m args below meth c Q E cl M (pc + 1) al (.inr (.inl h) :: st) κ) : rk_A p l e R s m args below meth c Q E cl M pc al st κ := fun H locs ls hH hS hL hst =>
  lv_aload_n hx hb hd rfl (hL.get hk (fun q => by cases q)) (k H locs ls hH hS hL (rk_okc (hL.2 _ _ hk).1 hst))
theorem rk_s_aload (hx : p.tables.exec = Jvm.exec) (hb : c.code = cc) {i : Nat} {h : Nat × Int × Int} (hd : decode cc pc = .ok (.aload i, 2)) (hk : al[i]? = some (.inr (.inl h))) (k : rk_A p l e R s m args below meth c Q E cl M (pc + 2) al (.inr (.inl h) :: st) κ) : rk_A p l e R s m args below meth c Q E cl M pc al st κ := fun H locs ls hH hS hL hst =>
  lv_aload hx hb hd (hL.get hk (fun q => by cases q)) (k H locs ls hH hS hL (rk_okc (hL.2 _ _ hk).1 hst))
theorem rk_lt_of {al : List rk_V} {i : Nat} {w : rk_V} (h : al[i]? = some w) : i < al.length := (List.getElem?_eq_some_iff.mp h).1
theorem rk_s_istore_n (hx : p.tables.exec = Jvm.exec) (hb : c.code = cc) {i : Fin 4} {x : Int} {w : rk_V} (hd : decode cc pc = .ok (.istore_n i, 1)) (hk : al[i.val]? = some w) (k : rk_A p l e R s m args below meth c Q E cl M (pc + 1) (al.set i.val (rk_i x)) st κ) : rk_A p l e R s m args below meth c Q E cl M pc al (rk_i x :: st) κ := fun H locs ls hH hS hL hst =>
  lv_istore_n hx hb hd rfl hL.1 (rk_lt_of hk) rfl (fun ls' h' => k H locs ls' hH hS (hL.set (rk_okt hst).1 rfl h') (rk_okt hst).2)
theorem rk_s_istore (hx : p.tables.exec = Jvm.exec) (hb : c.code = cc) {i : Nat} {x : Int} {w : rk_V} (hd : decode cc pc = .ok (.istore i, 2)) (hk : al[i]? = some w) (k : rk_A p l e R s m args below meth c Q E cl M (pc + 2) (al.set i (rk_i x)) st κ) : rk_A p l e R s m args below meth c Q E cl M pc al (rk_i x :: st) κ := fun H locs ls hH hS hL hst =>
  lv_istore hx hb hd hL.1 (rk_lt_of hk) rfl (fun ls' h' => k H locs ls' hH hS (hL.set (rk_okt hst).1 rfl h') (rk_okt hst).2)
theorem rk_s_astore_n (hx : p.tables.exec = Jvm.exec) (hb : c.code = cc) {i : Fin 4} {h : Nat × Int × Int} {w : rk_V} (hd : decode cc pc = .ok (.astore_n i, 1)) (hk : al[i.val]? = some w) (k : rk_A p l e R s m args below meth c Q E cl M (pc + 1) (al.set i.val (.inr (.inl h))) st κ) : rk_A p l e R s m args below meth c Q E cl M pc al (.inr (.inl h) :: st) κ := fun H locs ls hH hS hL hst =>
  lv_astore_n hx hb hd rfl hL.1 (rk_lt_of hk) rfl (fun ls' h' => k H locs ls' hH hS (hL.set (v := .inr (.inl h)) (rk_okt hst).1 rfl h') (rk_okt hst).2)
theorem rk_s_astore (hx : p.tables.exec = Jvm.exec) (hb : c.code = cc) {i : Nat} {h : Nat × Int × Int} {w : rk_V} (hd : decode cc pc = .ok (.astore i, 2)) (hk : al[i]? = some w) (k : rk_A p l e R s m args below meth c Q E cl M (pc + 2) (al.set i (.inr (.inl h))) st κ) : rk_A p l e R s m args below meth c Q E cl M pc al (.inr (.inl h) :: st) κ := fun H locs ls hH hS hL hst =>
  lv_astore hx hb hd hL.1 (rk_lt_of hk) rfl (fun ls' h' => k H locs ls' hH hS (hL.set (v := .inr (.inl h)) (rk_okt hst).1 rfl h') (rk_okt hst).2)
theorem rk_s_iinc (hx : p.tables.exec = Jvm.exec) (hb : c.code = cc) {i : Nat} {n x : Int} (hd : decode cc pc = .ok (.iinc i n, 3)) (hk : al[i]? = some (.inl x)) (hr : rk_rg (x + n)) (k : rk_A p l e R s m args below meth c Q E cl M (pc + 3) (al.set i (rk_i (x + n))) st κ) : rk_A p l e R s m args below meth c Q E cl M pc al st κ := fun H locs ls hH hS hL hst => by
  obtain ⟨q, hq⟩ := List.getElem?_of_mem (rk_en_in (E := E) (v := .inl x) (fun q => by cases q) al 0 i hk)
  rw [Nat.zero_add] at hq
  exact lv_iinc hx hb hd hL.1 hq (Int32.ofInt_add x n).symm (rk_lt_of hk) rfl (fun ls' h' => k H locs ls' hH hS (hL.set (v := rk_i (x + n)) hr rfl h') hst)
theorem rk_s_iadd (hx : p.tables.exec = Jvm.exec) (hb : c.code = cc) {x y : Int} (hd : decode cc pc = .ok (.iadd, 1)) (hr : rk_rg (x + y)) (k : rk_A p l e R s m args below meth c Q E cl M (pc + 1) al (rk_i (x + y) :: st) κ) : rk_A p l e R s m args below meth c Q E cl M pc al (rk_i y :: rk_i x :: st) κ := fun H locs ls hH hS hL hst => by
  have h := k H locs ls hH hS hL (rk_okc hr (rk_okt (rk_okt hst).2).2)
  rw [List.map_cons, show rk_vl E (rk_i (x + y)) = .int (Int32.ofInt x + Int32.ofInt y) from congrArg Value.int (Int32.ofInt_add x y)] at h
  exact lv_iadd hx hb hd h
theorem rk_s_isub (hx : p.tables.exec = Jvm.exec) (hb : c.code = cc) {x y : Int} (hd : decode cc pc = .ok (.isub, 1)) (hr : rk_rg (x - y)) (k : rk_A p l e R s m args below meth c Q E cl M (pc + 1) al (rk_i (x - y) :: st) κ) : rk_A p l e R s m args below meth c Q E cl M pc al (rk_i y :: rk_i x :: st) κ := fun H locs ls hH hS hL hst => by
  have h := k H locs ls hH hS hL (rk_okc hr (rk_okt (rk_okt hst).2).2)
  rw [List.map_cons, show rk_vl E (rk_i (x - y)) = .int (Int32.ofInt x - Int32.ofInt y) from congrArg Value.int (Int32.ofInt_sub x y)] at h
  exact lv_isub hx hb hd h
theorem rk_s_imul (hx : p.tables.exec = Jvm.exec) (hb : c.code = cc) {x y : Int} (hd : decode cc pc = .ok (.imul, 1)) (hr : rk_rg (x * y)) (k : rk_A p l e R s m args below meth c Q E cl M (pc + 1) al (rk_i (x * y) :: st) κ) : rk_A p l e R s m args below meth c Q E cl M pc al (rk_i y :: rk_i x :: st) κ := fun H locs ls hH hS hL hst => by
  have h := k H locs ls hH hS hL (rk_okc hr (rk_okt (rk_okt hst).2).2)
  rw [List.map_cons, show rk_vl E (rk_i (x * y)) = .int (Int32.ofInt x * Int32.ofInt y) from congrArg Value.int (Int32.ofInt_mul x y)] at h
  exact lv_imul hx hb hd h
theorem rk_divrg {x y : Int} (hx : rk_rg x) (h0 : 0 ≤ x) (h1 : 0 < y) : rk_rg (x / y) := ⟨by have := Int.ediv_nonneg h0 (Int.le_of_lt h1); omega, by have := Int.ediv_le_self y h0; have := hx.2; omega⟩
theorem rk_remrg {x y : Int} (hy : rk_rg y) (h1 : 0 < y) : rk_rg (x % y) := ⟨by have := Int.emod_nonneg x (Int.ne_of_gt h1); omega, by have := Int.emod_lt_of_pos x h1; have := hy.2; omega⟩
theorem rk_s_idiv (hx : p.tables.exec = Jvm.exec) (hb : c.code = cc) {x y : Int} (hd : decode cc pc = .ok (.idiv, 1)) (hr : 0 ≤ x ∧ 0 < y) (k : rk_A p l e R s m args below meth c Q E cl M (pc + 1) al (rk_i (x / y) :: st) κ) : rk_A p l e R s m args below meth c Q E cl M pc al (rk_i y :: rk_i x :: st) κ := fun H locs ls hH hS hL hst => by
  have gx : rk_rg x := (rk_okt (rk_okt hst).2).1
  have gy : rk_rg y := (rk_okt hst).1
  have h := k H locs ls hH hS hL (rk_okc (rk_divrg gx hr.1 hr.2) (rk_okt (rk_okt hst).2).2)
  rw [List.map_cons, show rk_vl E (rk_i (x / y)) = .int (Int32.ofInt x / Int32.ofInt y) from congrArg Value.int (rk_div gx gy hr.1 hr.2).symm] at h
  exact lv_idiv hx hb hd (fun q => by rw [rk_0, rk_eq gy rk_rg0] at q; omega) h
theorem rk_s_irem (hx : p.tables.exec = Jvm.exec) (hb : c.code = cc) {x y : Int} (hd : decode cc pc = .ok (.irem, 1)) (hr : 0 ≤ x ∧ 0 < y) (k : rk_A p l e R s m args below meth c Q E cl M (pc + 1) al (rk_i (x % y) :: st) κ) : rk_A p l e R s m args below meth c Q E cl M pc al (rk_i y :: rk_i x :: st) κ := fun H locs ls hH hS hL hst => by
  have gx : rk_rg x := (rk_okt (rk_okt hst).2).1
  have gy : rk_rg y := (rk_okt hst).1
  have h := k H locs ls hH hS hL (rk_okc (rk_remrg gy hr.2) (rk_okt (rk_okt hst).2).2)
  rw [List.map_cons, show rk_vl E (rk_i (x % y)) = .int (Int32.ofInt x - Int32.ofInt x / Int32.ofInt y * Int32.ofInt y) from congrArg Value.int (rk_rem gx gy hr.1 hr.2).symm] at h
  exact lv_irem hx hb hd (fun q => by rw [rk_0, rk_eq gy rk_rg0] at q; omega) h
theorem rk_s_iand (hx : p.tables.exec = Jvm.exec) (hb : c.code = cc) {x : Int} (hd : decode cc pc = .ok (.iand, 1)) (k : rk_A p l e R s m args below meth c Q E cl M (pc + 1) al (rk_i (x % 32) :: st) κ) : rk_A p l e R s m args below meth c Q E cl M pc al (rk_i 31 :: rk_i x :: st) κ := fun H locs ls hH hS hL hst => by
  have h := k H locs ls hH hS hL (rk_okc (rk_remrg (y := 32) ⟨by omega, by omega⟩ (by omega)) (rk_okt (rk_okt hst).2).2)
  rw [List.map_cons, show rk_vl E (rk_i (x % 32)) = .int (Int32.ofInt x &&& Int32.ofInt 31) from congrArg Value.int (rk_and31 x).symm] at h
  exact lv_iand hx hb hd h
theorem rk_s_i2c (hx : p.tables.exec = Jvm.exec) (hb : c.code = cc) {x : Int} (hd : decode cc pc = .ok (.i2c, 1)) (k : rk_A p l e R s m args below meth c Q E cl M (pc + 1) al (rk_i (x % 65536) :: st) κ) : rk_A p l e R s m args below meth c Q E cl M pc al (rk_i x :: st) κ := fun H locs ls hH hS hL hst =>
  lv_i2c hx hb hd (rk_chr x) (k H locs ls hH hS hL (rk_okc (rk_remrg (y := 65536) ⟨by omega, by omega⟩ (by omega)) (rk_okt hst).2))
theorem rk_s_i2l (hx : p.tables.exec = Jvm.exec) (hb : c.code = cc) {x : Int} (hd : decode cc pc = .ok (.i2l, 1)) (k : rk_A p l e R s m args below meth c Q E cl M (pc + 1) al (rk_l x :: st) κ) : rk_A p l e R s m args below meth c Q E cl M pc al (rk_i x :: st) κ := fun H locs ls hH hS hL hst =>
  lv_i2l hx hb hd (rk_i2l (rk_okt hst).1) (k H locs ls hH hS hL (rk_okc (v := rk_l x) (rk_okt hst).1 (rk_okt hst).2))
theorem rk_s_lcmp (hx : p.tables.exec = Jvm.exec) (hb : c.code = cc) {x y : Int} (hd : decode cc pc = .ok (.lcmp, 1)) (k0 : x = y → rk_A p l e R s m args below meth c Q E cl M (pc + 1) al (rk_i 0 :: st) κ) (k1 : x < y → rk_A p l e R s m args below meth c Q E cl M (pc + 1) al (rk_i (-1) :: st) κ) (k2 : y < x → rk_A p l e R s m args below meth c Q E cl M (pc + 1) al (rk_i 1 :: st) κ) :
    rk_A p l e R s m args below meth c Q E cl M pc al (rk_l y :: rk_l x :: st) κ := fun H locs ls hH hS hL hst => by
  have gx : rk_rg x := (rk_okt (rk_okt hst).2).1
  have gy : rk_rg y := (rk_okt hst).1
  have h3 := (rk_okt (rk_okt hst).2).2
  refine W.lcmp hx hb hd ?_
  have elt : ∀ {a b : Int}, rk_rg a → rk_rg b → (Int64.ofInt a < Int64.ofInt b ↔ a < b) := fun ha hb => by rw [Int64.lt_iff_toInt_lt, rk_toL ha, rk_toL hb]
  have e1 : ∀ z : Int, z = 0 ∨ z = 1 ∨ z = -1 → rk_rg z := fun z hz => by unfold rk_rg; omega
  rcases Int.lt_trichotomy x y with hh | hh | hh
  · have e : lg_cmp (Int64.ofInt x) (Int64.ofInt y) = Int32.ofInt (-1) := by
      have q1 : ¬ Int64.ofInt y < Int64.ofInt x := fun q => by rw [elt gy gx] at q; omega
      have q2 : Int64.ofInt x < Int64.ofInt y := (elt gx gy).mpr hh
      simp only [lg_cmp]
      rw [if_neg q1, if_neg (fun q => by rw [q] at q2; exact Int64.lt_irrefl q2)]; decide
    rw [e]; exact k1 hh H locs ls hH hS hL (rk_okc (e1 _ (by omega)) h3)
  · have e : lg_cmp (Int64.ofInt x) (Int64.ofInt y) = Int32.ofInt 0 := by
      subst hh
      have q1 : ¬ Int64.ofInt x < Int64.ofInt x := fun q => by rw [elt gx gx] at q; omega
      simp only [lg_cmp]
      rw [if_neg q1, if_pos trivial]; decide
    rw [e]; exact k0 hh H locs ls hH hS hL (rk_okc (e1 _ (by omega)) h3)
  · have e : lg_cmp (Int64.ofInt x) (Int64.ofInt y) = Int32.ofInt 1 := by
      have q1 : Int64.ofInt y < Int64.ofInt x := (elt gy gx).mpr hh
      simp only [lg_cmp]
      rw [if_pos q1]; decide
    rw [e]; exact k2 hh H locs ls hH hS hL (rk_okc (e1 _ (by omega)) h3)
theorem rk_s_dup (hx : p.tables.exec = Jvm.exec) (hb : c.code = cc) {v : rk_V} (hv : (rk_vl E v).category = 1) (hd : decode cc pc = .ok (.dup, 1)) (k : rk_A p l e R s m args below meth c Q E cl M (pc + 1) al (v :: v :: st) κ) : rk_A p l e R s m args below meth c Q E cl M pc al (v :: st) κ := fun H locs ls hH hS hL hst =>
  lv_dup hx hb hd hv (k H locs ls hH hS hL (rk_okc (rk_okt hst).1 hst))
theorem rk_s_pop (hx : p.tables.exec = Jvm.exec) (hb : c.code = cc) {v : rk_V} (hv : (rk_vl E v).category = 1) (hd : decode cc pc = .ok (.pop, 1)) (k : rk_A p l e R s m args below meth c Q E cl M (pc + 1) al st κ) : rk_A p l e R s m args below meth c Q E cl M pc al (v :: st) κ := fun H locs ls hH hS hL hst =>
  lv_pop hx hb hd hv (k H locs ls hH hS hL (rk_okt hst).2)
theorem rk_s_dup2 (hx : p.tables.exec = Jvm.exec) (hb : c.code = cc) {v w : rk_V} (hv : (rk_vl E v).category = 1) (hw : (rk_vl E w).category = 1) (hd : decode cc pc = .ok (.dup2, 1)) (k : rk_A p l e R s m args below meth c Q E cl M (pc + 1) al (v :: w :: v :: w :: st) κ) : rk_A p l e R s m args below meth c Q E cl M pc al (v :: w :: st) κ := fun H locs ls hH hS hL hst =>
  lv_dup2_11 hx hb hd hv hw (k H locs ls hH hS hL (rk_okc (rk_okt hst).1 (rk_okc (rk_okt (rk_okt hst).2).1 hst)))
theorem rk_tgt {pc : Nat} {off : Int} (h : 0 ≤ (pc : Int) + off) : (pc : Int) + off = (rk_tg pc off : Int) := by unfold rk_tg; omega
theorem rk_s_goto (hx : p.tables.exec = Jvm.exec) (hb : c.code = cc) {off : Int} (hd : decode cc pc = .ok (.goto off, 3)) (ht : 0 ≤ (pc : Int) + off) (k : rk_A p l e R s m args below meth c Q E cl M (rk_tg pc off) al st κ) : rk_A p l e R s m args below meth c Q E cl M pc al st κ := fun H locs ls hH hS hL hst =>
  lv_goto hx hb hd (rk_tgt ht) (k H locs ls hH hS hL hst)
theorem rk_s_icmp (hx : p.tables.exec = Jvm.exec) (hb : c.code = cc) {cd : Jvm.ClassFile.Cond} {off x y : Int} (hd : decode cc pc = .ok (.if_icmp cd off, 3)) (ht : 0 ≤ (pc : Int) + off) (k : rk_if cd x y (rk_A p l e R s m args below meth c Q E cl M (rk_tg pc off) al st κ) (rk_A p l e R s m args below meth c Q E cl M (pc + 3) al st κ)) : rk_A p l e R s m args below meth c Q E cl M pc al (rk_i y :: rk_i x :: st) κ := fun H locs ls hH hS hL hst => by
  have gx : rk_rg x := (rk_okt (rk_okt hst).2).1
  have gy : rk_rg y := (rk_okt hst).1
  have h3 := (rk_okt (rk_okt hst).2).2
  cases cd with
  | eq => exact lv_icmp_eq hx hb hd (rk_tgt ht) (fun q => k.1 ((rk_eq gx gy).mp q) H locs ls hH hS hL h3) (fun q => k.2 (fun z => q ((rk_eq gx gy).mpr z)) H locs ls hH hS hL h3)
  | ne => exact lv_icmp_ne hx hb hd (rk_tgt ht) (fun q => k.1 (fun z => q ((rk_eq gx gy).mpr z)) H locs ls hH hS hL h3) (fun q => k.2 ((rk_eq gx gy).mp q) H locs ls hH hS hL h3)
  | lt => exact lv_icmp_lt hx hb hd (rk_tgt ht) (fun q => k.1 ((rk_lt gx gy).mp q) H locs ls hH hS hL h3) (fun q => k.2 (Int.not_lt.mp fun z => q ((rk_lt gx gy).mpr z)) H locs ls hH hS hL h3)
  | ge => exact lv_icmp_ge hx hb hd (rk_tgt ht) (fun q => k.1 ((rk_le gy gx).mp q) H locs ls hH hS hL h3) (fun q => k.2 (Int.not_le.mp fun z => q ((rk_le gy gx).mpr z)) H locs ls hH hS hL h3)
  | gt => exact lv_icmp_gt hx hb hd (rk_tgt ht) (fun q => k.1 ((rk_lt gy gx).mp q) H locs ls hH hS hL h3) (fun q => k.2 (Int.not_lt.mp fun z => q ((rk_lt gy gx).mpr z)) H locs ls hH hS hL h3)
  | le => exact lv_icmp_le hx hb hd (rk_tgt ht) (fun q => k.1 ((rk_le gx gy).mp q) H locs ls hH hS hL h3) (fun q => k.2 (Int.not_le.mp fun z => q ((rk_le gx gy).mpr z)) H locs ls hH hS hL h3)
theorem rk_s_if (hx : p.tables.exec = Jvm.exec) (hb : c.code = cc) {cd : Jvm.ClassFile.Cond} {off x : Int} (hd : decode cc pc = .ok (.ifCond cd off, 3)) (ht : 0 ≤ (pc : Int) + off) (k : rk_if cd x 0 (rk_A p l e R s m args below meth c Q E cl M (rk_tg pc off) al st κ) (rk_A p l e R s m args below meth c Q E cl M (pc + 3) al st κ)) : rk_A p l e R s m args below meth c Q E cl M pc al (rk_i x :: st) κ := fun H locs ls hH hS hL hst => by
  have gx : rk_rg x := (rk_okt hst).1
  have gy := rk_rg0
  have h3 := (rk_okt hst).2
  have z0 : (0 : Int32) = Int32.ofInt 0 := rk_0
  cases cd with
  | eq => exact lv_if_eq hx hb hd (rk_tgt ht) (fun q => k.1 ((rk_eq gx gy).mp (z0 ▸ q)) H locs ls hH hS hL h3) (fun q => k.2 (fun z => q (z0 ▸ (rk_eq gx gy).mpr z)) H locs ls hH hS hL h3)
  | ne => exact lv_if_ne hx hb hd (rk_tgt ht) (fun q => k.1 (fun z => q (z0 ▸ (rk_eq gx gy).mpr z)) H locs ls hH hS hL h3) (fun q => k.2 ((rk_eq gx gy).mp (z0 ▸ q)) H locs ls hH hS hL h3)
  | lt => exact lv_if_lt hx hb hd (rk_tgt ht) (fun q => k.1 ((rk_lt gx gy).mp (z0 ▸ q)) H locs ls hH hS hL h3) (fun q => k.2 (Int.not_lt.mp fun z => q (z0 ▸ (rk_lt gx gy).mpr z)) H locs ls hH hS hL h3)
  | ge => exact lv_if_ge hx hb hd (rk_tgt ht) (fun q => k.1 ((rk_le gy gx).mp (z0 ▸ q)) H locs ls hH hS hL h3) (fun q => k.2 (Int.not_le.mp fun z => q (z0 ▸ (rk_le gy gx).mpr z)) H locs ls hH hS hL h3)
  | gt => exact lv_if_gt hx hb hd (rk_tgt ht) (fun q => k.1 ((rk_lt gy gx).mp (z0 ▸ q)) H locs ls hH hS hL h3) (fun q => k.2 (Int.not_lt.mp fun z => q (z0 ▸ (rk_lt gy gx).mpr z)) H locs ls hH hS hL h3)
  | le => exact lv_if_le hx hb hd (rk_tgt ht) (fun q => k.1 ((rk_le gx gy).mp (z0 ▸ q)) H locs ls hH hS hL h3) (fun q => k.2 (Int.not_le.mp fun z => q (z0 ▸ (rk_le gx gy).mpr z)) H locs ls hH hS hL h3)
end RKW
/-! Soundness: fields and arrays -/
section RKX
variable {p : Program} {l : Launch} {e : Env} {R : Room} {s : State} {m : MethodId} {args : Array Value} {below : List Frame} {meth : Method} {c : Code} {Q : State → Prop}
variable {cc : ByteArray} {E : rk_E} {cl : List vw_C} {M : rk_M} {pc : Nat} {al st rest : List rk_V} {κ : Nat} {t : Nat} {o r : Int}
/-- a field's number in the method's class file -/
def rk_FL (s : State) (m : MethodId) (args : Array Value) (cl : List vw_C) (idx ci k : Nat) (z : Int) : Prop := z = k ∧ ∃ (Cn : String) (T : u_T) (N : Nat) (own : String), cl[ci]? = some (Cn, T, N) ∧ k < N ∧ (∀ w ∈ u_ws Cn T N, w.before args s = true) ∧ s.vm.findClass own = some m.cls ∧
  ((Cond.fieldLink own idx (T k).1 (T k).2.1 (T k).2.2.1).before args s = true ∨ ∃ host, (Cond.fieldLinkNest own idx (T k).1 (T k).2.1 (T k).2.2.1 host).before args s = true)
theorem rk_vl_r {t : Nat} {o r : Int} (ht : t ≠ 0) : rk_vl E (rk_r t o r) = .ref (E.ad t o r) := by
  show Value.ref (if t = 0 then o.toNat else E.ad t o r) = _
  rw [if_neg ht]
theorem rk_t0 {L : Nat} {t k n : Nat} {fs : List Nat} {on rn : Int} (h : rk_kd L t = (k, n, fs, on, rn)) (hk : k ≠ 0) : t ≠ 0 := fun q => by
  subst q
  have h0 : rk_kd L 0 = (0, 0, [], 0, 0) := rfl
  rw [h0] at h
  exact hk (Prod.mk.inj h).1.symm
theorem rk_vhof {k n : Nat} {fs : List Nat} {on rn : Int} (h : rk_kd E.L t = (k, n, fs, on, rn)) (hk : k ≠ 0) (hv : rk_ok E (rk_r t o r)) : t ≠ 0 ∧ rk_vh E t o r := by
  have h0 := rk_t0 h hk
  exact ⟨h0, hv.resolve_left h0⟩
theorem rk_s_getfield (hx : p.tables.exec = Jvm.exec) (hb : c.code = cc) (hO : rk_O E) (hT : rk_T E cl s) {idx ci k f : Nat} {fs : List Nat} {on rn z : Int} (hF : rk_FL s m args cl idx ci k z) (hd : decode cc pc = .ok (.getfield idx, 3)) (hk : rk_kd E.L t = (1, ci, fs, on, rn)) (hf : fs[k]? = some f) {v : rk_V}
    (hv : (f ≤ 1 ∧ v = rk_i (M t o r z)) ∨ (2 ≤ f ∧ v = rk_r f o 0)) (kk : rk_A p l e R s m args below meth c Q E cl M (pc + 3) al (v :: st) κ) : rk_A p l e R s m args below meth c Q E cl M pc al (rk_r t o r :: st) κ := fun H locs ls hH hS hL hst => by
  obtain ⟨h0, hvh⟩ := rk_vhof hk (by decide) (rk_okt hst).1
  obtain ⟨hrg, B, hB, hat⟩ := id hH
  have h1 := hat t o r hvh
  rw [hk] at h1
  obtain ⟨q, hq1, hq2, cell, q1, q2, q3, q4⟩ := h1
  obtain ⟨rfl, Cn, T, N, own, hF1, hkN, hws, hown, hlink⟩ := hF
  cases hF1.symm.trans hq1
  obtain ⟨⟨hSl, hfc, kC, hkC, hkind⟩, -⟩ := hT.1 ci _ hq1
  obtain ⟨cf, kf, fi, fd, hi, hsl⟩ := hSl k hkN
  have hst0 := (u_facts hfc hkC (u_lays (ws := u_ws Cn T N) hws (fun w h => h) hkN) hi).1
  have hfd : fs.getD k 0 = f := by rw [List.getD_eq_getElem?_getD, hf]; rfl
  have hval : rk_fv E M t o r fs k = rk_vl E v := by
    unfold rk_fv
    rw [hfd]
    rcases hv with ⟨h1, rfl⟩ | ⟨h1, rfl⟩
    · rw [if_pos h1]; rfl
    · rw [if_neg (by omega), rk_vl_r (by omega)]
  have hok : rk_ok E v := by
    rcases hv with ⟨h1, rfl⟩ | ⟨h1, rfl⟩
    · exact hrg _ _ _ _
    · obtain ⟨g1, g2, g3⟩ := hO.2.2.2.1 t f hvh.1 (by rw [hk]) (by rw [hk]; exact List.mem_of_getElem? hf) h1
      exact Or.inr ⟨g1, hvh.2.1, by rw [g2]; exact hvh.2.2.1, Int.le_refl _, by rw [g3]; exact Int.zero_lt_one⟩
  have kW := kk H locs ls hH hS hL (rk_okc hok (rk_okt hst).2)
  rw [List.map_cons, rk_vl_r h0]
  have hslot : cell.slots[fd.slot]? = some (rk_vl E v) := by rw [hsl, ← hval]; exact q4 k hkN
  rcases hlink with hl | ⟨host, hl⟩
  · exact W.getf hx hb hown hl hi hst0 q1 (by rw [q3]; exact fun h => by cases h) hslot rfl rfl hd kW
  · exact va_Wgetf hx hb hown hl hi hst0 q1 (by rw [q3]; exact fun h => by cases h) hslot rfl rfl hd kW
theorem rk_up_self {M : rk_M} {t : Nat} {o r j v : Int} : rk_up M t o r j v t o r j = v := by simp [rk_up]
theorem rk_up_ne {M : rk_M} {t t' : Nat} {o r j v o' r' j' : Int} (h : ¬ (t' = t ∧ o' = o ∧ r' = r ∧ j' = j)) : rk_up M t o r j v t' o' r' j' = M t' o' r' j' := by simp only [rk_up]; rw [if_neg h]
theorem rk_up_off {M : rk_M} {t t' : Nat} {o r j v o' r' j' : Int} (h : ¬ (t' = t ∧ o' = o ∧ r' = r)) : rk_up M t o r j v t' o' r' j' = M t' o' r' j' := rk_up_ne fun q => h ⟨q.1, q.2.1, q.2.2.1⟩
theorem rk_up_rg {M : rk_M} {t : Nat} {o r j v : Int} (h : ∀ t o r j, rk_rg (M t o r j)) (hv : rk_rg v) (j' : Int) : rk_rg (rk_up M t o r j v t o r j') := by
  unfold rk_up; split
  · exact hv
  · exact h _ _ _ _
theorem rk_s_putfield (hx : p.tables.exec = Jvm.exec) (hb : c.code = cc) (hO : rk_O E) (hT : rk_T E cl s) {idx ci k f : Nat} {fs : List Nat} {on rn v z : Int} (hF : rk_FL s m args cl idx ci k z) (hFn : ∀ q, cl[ci]? = some q → (q.2.1 k).2.2.2 = false ∧ (f = 0 → parseFieldDescriptor (q.2.1 k).2.2.1 = some .int) ∧ (f = 1 → parseFieldDescriptor (q.2.1 k).2.2.1 = some .boolean))
    (hd : decode cc pc = .ok (.putfield idx, 3)) (hk : rk_kd E.L t = (1, ci, fs, on, rn)) (hf : fs[k]? = some f) (hf1 : f ≤ 1) (hv : f = 1 → v = 0 ∨ v = 1) (kk : rk_A p l e R s m args below meth c Q E cl (rk_up M t o r z v) (pc + 3) al st κ) : rk_A p l e R s m args below meth c Q E cl M pc al (rk_i v :: rk_r t o r :: st) κ := fun H locs ls hH hS hL hst => by
  have gv : rk_rg v := (rk_okt hst).1
  obtain ⟨h0, hvh⟩ := rk_vhof hk (by decide) (rk_okt (rk_okt hst).2).1
  obtain ⟨hrg, B, hB, hat⟩ := id hH
  have h1 := hat t o r hvh
  rw [hk] at h1
  obtain ⟨q, hq1, hq2, cell, q1, q2, q3, q4⟩ := h1
  obtain ⟨rfl, Cn, T, N, own, hF1, hkN, hws, hown, hlink⟩ := hF
  cases hF1.symm.trans hq1
  obtain ⟨⟨hSl, hfc, kC, hkC, hkind⟩, hap⟩ := hT.1 ci _ hq1
  obtain ⟨cf, kf, fi, fd, hi, hsl⟩ := hSl k hkN
  have hlays := u_lays (ws := u_ws Cn T N) hws (fun w h => h) hkN
  have hst0 := (u_facts hfc hkC hlays hi).1
  obtain ⟨hfin, hty0, hty1⟩ := hFn _ hq1
  have hlay : (Cond.lays Cn (T k).1 (T k).2.1 (T k).2.2.1).before args s = true := by
    have h2 := hws _ (u_in_lay hkN)
    unfold u_lay at h2
    rwa [if_neg (by rw [hfin]; decide)] at h2
  have hfd : fs.getD k 0 = f := by rw [List.getD_eq_getElem?_getD, hf]; rfl
  have hSd : k2_Sd s fd cell.cls (.int (Int32.ofInt v)) := by
    rw [q2]
    rcases (show f = 0 ∨ f = 1 by omega) with hf0 | hf0
    · exact u_store hfc hkC hkind hlay hi (hty0 hf0) rfl rfl
    · rcases hv hf0 with rfl | rfl
      · exact u_store hfc hkC hkind hlay hi (hty1 hf0) (by decide) (by decide)
      · exact u_store hfc hkC hkind hlay hi (hty1 hf0) (by decide) (by decide)
  have fin : ∀ H' : Heap, H'[E.ad t o r]? = some (cell.setSlot fd.slot (.int (Int32.ofInt v))) → H'.size = H.size → (∀ q, q ≠ E.ad t o r → H'[q]? = H[q]?) → W p l e R s m args below meth c H' (locs ++ [⟨E.ad t o r, fd.slot⟩]) κ (200 * κ) Q (F0 m (pc + 3) ls (st.map (rk_vl E))) := by
    intro H' e1 e2 e3
    refine kk H' _ ls ?_ (hS.put e2 e3 (hO.2.1 t o r hvh (by rw [hk]; simp))) hL (rk_okt (rk_okt hst).2).2
    refine hH.put hO hvh (by rw [hk]; simp) (fun t' o' r' j hz => rk_up_off hz) (rk_up_rg hrg gv) (fun B' _ => ?_) e3
    rw [hk]
    refine ⟨_, hq1, hq2, ?_⟩
    rw [hsl] at e1
    refine t_OB.to (V := updV (rk_fv E M t o r fs) k (.int (Int32.ofInt v))) ⟨_, e1, q2, q3, t_set q4 hap hkN _⟩ (fun j hj => ?_)
    unfold updV
    by_cases hjk : j = k
    · subst hjk
      rw [if_pos rfl]
      unfold rk_fv
      rw [hfd, if_pos hf1, rk_up_self]
    · rw [if_neg hjk]
      unfold rk_fv
      rw [rk_up_ne (fun q => hjk (by have := q.2.2.2; omega))]
  rw [List.map_cons, List.map_cons, rk_vl_r h0]
  rcases hlink with hl | ⟨host, hl⟩
  · exact W.putK hx hb (f := fd) ⟨hown, hl, ⟨_, _, _, hi⟩, hst0⟩ hSd q1 q3 (by rw [hsl]; exact k2_hasslot (q4 k hkN)) rfl rfl hd fin
  · exact va_WputK hx hb (f := fd) hown hl hi hst0 hSd q1 q3 (by rw [hsl]; exact k2_hasslot (q4 k hkN)) rfl rfl hd fin
theorem rk_size {cA : ClassId} {n : Nat} {f : Nat → Value} {j : Int} (gj : rk_rg j) (hj : 0 ≤ j ∧ j < n) : ¬ (Int32.ofInt j < 0 ∨ (arrV cA n f).slots.size ≤ (Int32.ofInt j).toNatClampNeg) := by
  rw [arrV_size]; exact rk_vin gj hj.1 hj.2
theorem rk_slot {cA : ClassId} {n : Nat} {f : Int → Value} {j : Int} (gj : rk_rg j) (hj : 0 ≤ j ∧ j < n) : (arrV cA n (fun k : Nat => f k)).slots[(Int32.ofInt j).toNatClampNeg]? = some (f j) := by
  have h := rk_cl0 gj hj.1
  rw [arrV_read _ _ (by omega), h]
theorem rk_s_iaload (hx : p.tables.exec = Jvm.exec) (hb : c.code = cc) (hT : rk_T E cl s) {n : Nat} {fs : List Nat} {on rn j : Int} (hd : decode cc pc = .ok (.iaload, 1)) (hk : rk_kd E.L t = (2, n, fs, on, rn)) (hj : 0 ≤ j ∧ j < n)
    (kk : rk_A p l e R s m args below meth c Q E cl M (pc + 1) al (rk_i (M t o r j) :: st) κ) : rk_A p l e R s m args below meth c Q E cl M pc al (rk_i j :: rk_r t o r :: st) κ := fun H locs ls hH hS hL hst => by
  have gj : rk_rg j := (rk_okt hst).1
  obtain ⟨h0, hvh⟩ := rk_vhof hk (by decide) (rk_okt (rk_okt hst).2).1
  obtain ⟨hrg, B, hB, hat⟩ := id hH
  have h1 := hat t o r hvh
  rw [hk] at h1
  have kW := kk H locs ls hH hS hL (rk_okc (hrg _ _ _ _) (rk_okt (rk_okt hst).2).2)
  rw [List.map_cons, List.map_cons, rk_vl_r h0]
  exact W.iald hx hb h1 (hT.2.1 n _) (fun q => by cases q) (rk_size gj hj) (rk_slot (f := fun k => .int (Int32.ofInt (M t o r k))) gj hj) rfl rfl hd kW
theorem rk_s_ialoadX (hx : p.tables.exec = Jvm.exec) (hb : c.code = cc) {n : Nat} {fs : List Nat} {on rn j : Int} (hd : decode cc pc = .ok (.iaload, 1)) (hk : rk_kd E.L t = (7, n, fs, on, rn)) (hj : 0 ≤ j ∧ j < n)
    (kk : rk_A p l e R s m args below meth c Q E cl M (pc + 1) al (rk_i (M t o r j) :: st) κ) : rk_A p l e R s m args below meth c Q E cl M pc al (rk_i j :: rk_r t o r :: st) κ := fun H locs ls hH hS hL hst => by
  have gj : rk_rg j := (rk_okt hst).1
  obtain ⟨h0, hvh⟩ := rk_vhof hk (by decide) (rk_okt (rk_okt hst).2).1
  obtain ⟨hrg, B, hB, hat⟩ := id hH
  have h1 := hat t o r hvh
  rw [hk] at h1
  obtain ⟨scr, e1, e2, e3, e4, e5⟩ := h1
  have kW := kk H locs ls hH hS hL (rk_okc (hrg _ _ _ _) (rk_okt (rk_okt hst).2).2)
  rw [List.map_cons, List.map_cons, rk_vl_r h0]
  have hc0 := rk_cl0 gj hj.1
  refine W.iald hx hb e1 e2 e3 (by rw [e4]; exact rk_vin gj hj.1 hj.2) (v := .int (Int32.ofInt (M t o r j))) ?_ rfl rfl hd kW
  rw [e5 _ (by omega)]
  dsimp only
  rw [hc0]
theorem rk_s_baload (hx : p.tables.exec = Jvm.exec) (hb : c.code = cc) (hT : rk_T E cl s) {n : Nat} {fs : List Nat} {on rn j : Int} (hd : decode cc pc = .ok (.baload, 1)) (hk : rk_kd E.L t = (3, n, fs, on, rn)) (hj : 0 ≤ j ∧ j < n)
    (kk : rk_A p l e R s m args below meth c Q E cl M (pc + 1) al (rk_i (M t o r j) :: st) κ) : rk_A p l e R s m args below meth c Q E cl M pc al (rk_i j :: rk_r t o r :: st) κ := fun H locs ls hH hS hL hst => by
  have gj : rk_rg j := (rk_okt hst).1
  obtain ⟨h0, hvh⟩ := rk_vhof hk (by decide) (rk_okt (rk_okt hst).2).1
  obtain ⟨hrg, B, hB, hat⟩ := id hH
  have h1 := hat t o r hvh
  rw [hk] at h1
  have kW := kk H locs ls hH hS hL (rk_okc (hrg _ _ _ _) (rk_okt (rk_okt hst).2).2)
  rw [List.map_cons, List.map_cons, rk_vl_r h0]
  exact W.zald hx hb h1 (hT.2.2.1 n _) (fun q => by cases q) (rk_size gj hj) (rk_slot (f := fun k => .int (Int32.ofInt (M t o r k))) gj hj) rfl rfl hd kW
theorem rk_s_laload (hx : p.tables.exec = Jvm.exec) (hb : c.code = cc) (hT : rk_T E cl s) {n : Nat} {fs : List Nat} {on rn j : Int} (hd : decode cc pc = .ok (.laload, 1)) (hk : rk_kd E.L t = (5, n, fs, on, rn)) (hj : 0 ≤ j ∧ j < n)
    (kk : rk_A p l e R s m args below meth c Q E cl M (pc + 1) al (rk_l (M t o r j) :: st) κ) : rk_A p l e R s m args below meth c Q E cl M pc al (rk_i j :: rk_r t o r :: st) κ := fun H locs ls hH hS hL hst => by
  have gj : rk_rg j := (rk_okt hst).1
  obtain ⟨h0, hvh⟩ := rk_vhof hk (by decide) (rk_okt (rk_okt hst).2).1
  obtain ⟨hrg, B, hB, hat⟩ := id hH
  have h1 := hat t o r hvh
  rw [hk] at h1
  have kW := kk H locs ls hH hS hL (rk_okc (v := rk_l (M t o r j)) (hrg _ _ _ _) (rk_okt (rk_okt hst).2).2)
  rw [List.map_cons, List.map_cons, rk_vl_r h0]
  exact W.lald hx hb h1 (hT.2.2.2.2.1 n _) (fun q => by cases q) (rk_size gj hj) (rk_slot (f := fun k => .long (Int64.ofInt (M t o r k))) gj hj) rfl rfl hd kW
theorem rk_s_aaload0 (hx : p.tables.exec = Jvm.exec) (hb : c.code = cc) (hO : rk_O E) (hT : rk_T E cl s) {n t' : Nat} {on rn j : Int} (hd : decode cc pc = .ok (.aaload, 1)) (hk : rk_kd E.L t = (4, n, [t', 0], on, rn)) (hj : 0 ≤ j ∧ j < n)
    (kk : rk_A p l e R s m args below meth c Q E cl M (pc + 1) al (rk_r t' o j :: st) κ) : rk_A p l e R s m args below meth c Q E cl M pc al (rk_i j :: rk_r t o r :: st) κ := fun H locs ls hH hS hL hst => by
  have gj : rk_rg j := (rk_okt hst).1
  obtain ⟨h0, hvh⟩ := rk_vhof hk (by decide) (rk_okt (rk_okt hst).2).1
  obtain ⟨hrg, B, hB, hat⟩ := id hH
  have h1 := hat t o r hvh
  rw [hk] at h1
  obtain ⟨g1, g2, g3⟩ := hO.2.2.2.2.1 t n t' on rn hvh.1 hk
  have h2 := hvh.2.2.1
  rw [hk] at h2
  have ht' : t' ≠ 0 := fun q => by rw [q, hO.2.2.1] at g1; cases g1
  have kW := kk H locs ls hH hS hL (rk_okc (v := rk_r t' o j) (Or.inr ⟨g1, hvh.2.1, by rw [g2]; exact h2, hj.1, by rw [g3]; exact hj.2⟩) (rk_okt (rk_okt hst).2).2)
  rw [List.map_cons, rk_vl_r ht'] at kW
  rw [List.map_cons, List.map_cons, rk_vl_r h0]
  exact W.aald hx hb h1 (hT.2.2.2.1 n _) rfl (fun q => by cases q) (rk_size gj hj) (rk_slot (f := fun k => .ref (E.ad t' o k)) gj hj) rfl rfl hd kW
theorem rk_s_aaload1 (hx : p.tables.exec = Jvm.exec) (hb : c.code = cc) (hO : rk_O E) (hT : rk_T E cl s) {n t' : Nat} {on rn j : Int} (hd : decode cc pc = .ok (.aaload, 1)) (hk : rk_kd E.L t = (4, n, [t', 1], on, rn)) (hj : 0 ≤ j ∧ j < n)
    (kk : rk_A p l e R s m args below meth c Q E cl M (pc + 1) al (rk_r t' j 0 :: st) κ) : rk_A p l e R s m args below meth c Q E cl M pc al (rk_i j :: rk_r t o r :: st) κ := fun H locs ls hH hS hL hst => by
  have gj : rk_rg j := (rk_okt hst).1
  obtain ⟨h0, hvh⟩ := rk_vhof hk (by decide) (rk_okt (rk_okt hst).2).1
  obtain ⟨hrg, B, hB, hat⟩ := id hH
  have h1 := hat t o r hvh
  rw [hk] at h1
  obtain ⟨g1, g2, g3⟩ := hO.2.2.2.2.2 t n t' on rn hvh.1 hk
  have ht' : t' ≠ 0 := fun q => by rw [q, hO.2.2.1] at g1; cases g1
  have kW := kk H locs ls hH hS hL (rk_okc (v := rk_r t' j 0) (Or.inr ⟨g1, hj.1, by rw [g2]; exact hj.2, Int.le_refl _, by rw [g3]; exact Int.zero_lt_one⟩) (rk_okt (rk_okt hst).2).2)
  rw [List.map_cons, rk_vl_r ht'] at kW
  rw [List.map_cons, List.map_cons, rk_vl_r h0]
  obtain ⟨CC, hCC⟩ := hT.2.2.2.2.2.1
  exact W.aald hx hb h1 (hCC n _) rfl (fun q => by cases q) (rk_size gj hj) (rk_slot (f := fun k => .ref (E.ad t' k 0)) gj hj) rfl rfl hd kW
theorem rk_sto {cA : ClassId} {n : Nat} {M : rk_M} {t : Nat} {o r j : Int} {V : Int → Value} {v : Int} (gj : rk_rg j) (hj : 0 ≤ j) : (arrV cA n (fun k : Nat => V (M t o r k))).setSlot (Int32.ofInt j).toNatClampNeg (V v) = arrV cA n (fun k : Nat => V (rk_up M t o r j v t o r k)) := by
  have h := rk_cl0 gj hj
  rw [arrV_store]
  congr 1
  funext q
  unfold updV
  by_cases hq : q = (Int32.ofInt j).toNatClampNeg
  · rw [if_pos hq, hq, h, rk_up_self]
  · rw [if_neg hq, rk_up_ne (fun z => hq (by have := z.2.2.2; omega))]
theorem rk_s_iastore (hx : p.tables.exec = Jvm.exec) (hb : c.code = cc) (hO : rk_O E) (hT : rk_T E cl s) {n : Nat} {fs : List Nat} {on rn j v : Int} (hd : decode cc pc = .ok (.iastore, 1)) (hk : rk_kd E.L t = (2, n, fs, on, rn)) (hj : 0 ≤ j ∧ j < n)
    (kk : rk_A p l e R s m args below meth c Q E cl (rk_up M t o r j v) (pc + 1) al st κ) : rk_A p l e R s m args below meth c Q E cl M pc al (rk_i v :: rk_i j :: rk_r t o r :: st) κ := fun H locs ls hH hS hL hst => by
  have gv : rk_rg v := (rk_okt hst).1
  have gj : rk_rg j := (rk_okt (rk_okt hst).2).1
  obtain ⟨h0, hvh⟩ := rk_vhof hk (by decide) (rk_okt (rk_okt (rk_okt hst).2).2).1
  obtain ⟨hrg, B, hB, hat⟩ := id hH
  have h1 := hat t o r hvh
  rw [hk] at h1
  rw [List.map_cons, List.map_cons, List.map_cons, rk_vl_r h0]
  refine W.iast hx hb h1 (hT.2.1 n _) (fun q => by cases q) (rk_size gj hj) rfl rfl hd fun H' e1 e2 e3 => ?_
  refine kk H' _ ls ?_ (hS.put e2 e3 (hO.2.1 t o r hvh (by rw [hk]; simp))) hL (rk_okt (rk_okt (rk_okt hst).2).2).2
  refine hH.put hO hvh (by rw [hk]; simp) (fun t' o' r' j hz => rk_up_off hz) (rk_up_rg hrg gv) (fun B' _ => ?_) e3
  rw [hk]
  exact e1.trans (congrArg some (rk_sto (V := fun x => .int (Int32.ofInt x)) gj hj.1))
theorem rk_s_bastore (hx : p.tables.exec = Jvm.exec) (hb : c.code = cc) (hO : rk_O E) (hT : rk_T E cl s) {n : Nat} {fs : List Nat} {on rn j v : Int} (hd : decode cc pc = .ok (.bastore, 1)) (hk : rk_kd E.L t = (3, n, fs, on, rn)) (hj : 0 ≤ j ∧ j < n) (hv : v = 0 ∨ v = 1)
    (kk : rk_A p l e R s m args below meth c Q E cl (rk_up M t o r j v) (pc + 1) al st κ) : rk_A p l e R s m args below meth c Q E cl M pc al (rk_i v :: rk_i j :: rk_r t o r :: st) κ := fun H locs ls hH hS hL hst => by
  have gv : rk_rg v := (rk_okt hst).1
  have gj : rk_rg j := (rk_okt (rk_okt hst).2).1
  obtain ⟨h0, hvh⟩ := rk_vhof hk (by decide) (rk_okt (rk_okt (rk_okt hst).2).2).1
  obtain ⟨hrg, B, hB, hat⟩ := id hH
  have h1 := hat t o r hvh
  rw [hk] at h1
  rw [List.map_cons, List.map_cons, List.map_cons, rk_vl_r h0]
  refine W.zast hx hb h1 (hT.2.2.1 n _) (fun q => by cases q) (rk_size gj hj) rfl rfl hd fun H' e1 e2 e3 => ?_
  refine kk H' _ ls ?_ (hS.put e2 e3 (hO.2.1 t o r hvh (by rw [hk]; simp))) hL (rk_okt (rk_okt (rk_okt hst).2).2).2
  refine hH.put hO hvh (by rw [hk]; simp) (fun t' o' r' j hz => rk_up_off hz) (rk_up_rg hrg gv) (fun B' _ => ?_) e3
  rw [hk]
  have hn : narrow .boolean (.int (Int32.ofInt v)) = .int (Int32.ofInt v) := by rcases hv with rfl | rfl <;> decide
  rw [hn] at e1
  exact e1.trans (congrArg some (rk_sto (V := fun x => .int (Int32.ofInt x)) gj hj.1))
theorem rk_s_lastore (hx : p.tables.exec = Jvm.exec) (hb : c.code = cc) (hO : rk_O E) (hT : rk_T E cl s) {n : Nat} {fs : List Nat} {on rn j v : Int} (hd : decode cc pc = .ok (.lastore, 1)) (hk : rk_kd E.L t = (5, n, fs, on, rn)) (hj : 0 ≤ j ∧ j < n)
    (kk : rk_A p l e R s m args below meth c Q E cl (rk_up M t o r j v) (pc + 1) al st κ) : rk_A p l e R s m args below meth c Q E cl M pc al (rk_l v :: rk_i j :: rk_r t o r :: st) κ := fun H locs ls hH hS hL hst => by
  have gv : rk_rg v := (rk_okt hst).1
  have gj : rk_rg j := (rk_okt (rk_okt hst).2).1
  obtain ⟨h0, hvh⟩ := rk_vhof hk (by decide) (rk_okt (rk_okt (rk_okt hst).2).2).1
  obtain ⟨hrg, B, hB, hat⟩ := id hH
  have h1 := hat t o r hvh
  rw [hk] at h1
  rw [List.map_cons, List.map_cons, List.map_cons, rk_vl_r h0]
  refine W.last hx hb h1 (hT.2.2.2.2.1 n _) (fun q => by cases q) (rk_size gj hj) rfl rfl hd fun H' e1 e2 e3 => ?_
  refine kk H' _ ls ?_ (hS.put e2 e3 (hO.2.1 t o r hvh (by rw [hk]; simp))) hL (rk_okt (rk_okt (rk_okt hst).2).2).2
  refine hH.put hO hvh (by rw [hk]; simp) (fun t' o' r' j hz => rk_up_off hz) (rk_up_rg hrg gv) (fun B' _ => ?_) e3
  rw [hk]
  exact e1.trans (congrArg some (rk_sto (V := fun x => .long (Int64.ofInt x)) gj hj.1))
theorem rk_s_alen (hx : p.tables.exec = Jvm.exec) (hb : c.code = cc) (hT : rk_T E cl s) {n : Nat} {fs : List Nat} {on rn : Int} (hn : n < 2147483648) (hd : decode cc pc = .ok (.arraylength, 1)) (hk : rk_kd E.L t = (2, n, fs, on, rn))
    (kk : rk_A p l e R s m args below meth c Q E cl M (pc + 1) al (rk_i n :: st) κ) : rk_A p l e R s m args below meth c Q E cl M pc al (rk_r t o r :: st) κ := fun H locs ls hH hS hL hst => by
  obtain ⟨h0, hvh⟩ := rk_vhof hk (by decide) (rk_okt hst).1
  obtain ⟨hrg, B, hB, hat⟩ := id hH
  have h1 := hat t o r hvh
  rw [hk] at h1
  have kW := kk H locs ls hH hS hL (rk_okc (v := rk_i n) ⟨by omega, by omega⟩ (rk_okt hst).2)
  rw [List.map_cons, rk_vl_r h0]
  refine W.alen hx hb h1 (hT.2.1 n _) (n := Int32.ofInt n) ?_ rfl rfl hd kW
  rw [arrV_size, rk_ofN]; rfl
theorem rk_s_alenX (hx : p.tables.exec = Jvm.exec) (hb : c.code = cc) {n : Nat} {fs : List Nat} {on rn : Int} (hn : n < 2147483648) (hd : decode cc pc = .ok (.arraylength, 1)) (hk : rk_kd E.L t = (7, n, fs, on, rn))
    (kk : rk_A p l e R s m args below meth c Q E cl M (pc + 1) al (rk_i n :: st) κ) : rk_A p l e R s m args below meth c Q E cl M pc al (rk_r t o r :: st) κ := fun H locs ls hH hS hL hst => by
  obtain ⟨h0, hvh⟩ := rk_vhof hk (by decide) (rk_okt hst).1
  obtain ⟨hrg, B, hB, hat⟩ := id hH
  have h1 := hat t o r hvh
  rw [hk] at h1
  obtain ⟨scr, e1, e2, e3, e4, e5⟩ := h1
  have kW := kk H locs ls hH hS hL (rk_okc (v := rk_i n) ⟨by omega, by omega⟩ (rk_okt hst).2)
  rw [List.map_cons, rk_vl_r h0]
  refine W.alen hx hb e1 e2 (n := Int32.ofInt n) ?_ rfl rfl hd kW
  rw [e4, rk_ofN]; rfl
end RKX
end
section
/-! Contracts; the walk's soundness -/
def rk_xn (x : Nat) : String := if x = 0 then "java/lang/IndexOutOfBoundsException" else if x = 1 then "java/lang/IllegalArgumentException" else "java/lang/IllegalStateException"
def rk_oc (E : rk_E) (t : State) (z : rk_Z) (oc : Outcome) : Prop := match z with
  | .inl none => oc = .returned none
  | .inl (some v) => oc = .returned (some (rk_vl E v)) ∧ rk_ok E v
  | .inr x => ∃ (a : Addr) (cell : Cell), oc = .threw a ∧ t.heap[a]? = some cell ∧ cell.vm = .none ∧ t.vm.findClass (rk_xn x) = some cell.cls
/-- what was there at the start is as it was; what the Statement says of the start -/
def rk_NN (E : rk_E) (U : State) : Prop := E.n0 ≤ U.heap.size ∧ E.L < 2147483648 ∧ E.n0 = E.s0.heap.size ∧ (∀ q, q < E.n0 → U.heap[q]? = E.s0.heap[q]?) ∧ E.s0.WarmedH U.vm ∧ ∃ a : Array Value, (Jvm.Cond.and given_1 narrow_1).before a E.s0 = true ∧ ∀ w ∈ lw_tbl, w.before a E.s0 = true
theorem rk_NN.moved {E : rk_E} {s U : State} (hW : s.WarmedH U.vm) (hz : s.heap.size ≤ U.heap.size) (hk : ∀ q, q < s.heap.size → ¬ E.n0 ≤ q → U.heap[q]? = s.heap[q]?) (h : rk_NN E s) : rk_NN E U :=
  ⟨Nat.le_trans h.1 hz, h.2.1, h.2.2.1, fun q hq => (hk q (Nat.lt_of_lt_of_le hq h.1) (Nat.not_le.mpr hq)).trans (h.2.2.2.1 q hq), State.WarmedH.trans h.2.2.2.2.1 hW, h.2.2.2.2.2⟩
def rk_Wd (E : rk_E) (cl : List vw_C) (M : rk_M) (U : State) : Prop := rk_TB U ∧ rk_O E ∧ rk_T E cl U ∧ rk_H E cl U M U.heap ∧ rk_NN E U
theorem rk_Wd.moved {E : rk_E} {cl : List vw_C} {M : rk_M} {s U : State} (hW : s.WarmedH U.vm) (hh : U.heap = s.heap) (h : rk_Wd E cl M s) : rk_Wd E cl M U := by
  obtain ⟨h1, h2, h3, h4, h5⟩ := h
  exact ⟨rk_TB.warm hW h1, h2, h3.moved hW.alike, by rw [hh]; exact h4.moved hW.alike, h5.moved hW (by rw [hh]; exact Nat.le_refl _) (fun q _ _ => by rw [hh])⟩
def rk_Qc (E : rk_E) (cl : List vw_C) (post : rk_Z → rk_M → Prop) : Array Value → State → Outcome → State → Prop := fun _ st oc t =>
  (∃ (z : rk_Z) (M' : rk_M), post z M' ∧ rk_oc E t z oc ∧ rk_Wd E cl M' t) ∧ va_F (fun q => E.n0 ≤ q) st t
def rk_Pc (E : rk_E) (cl : List vw_C) (as : List rk_V) (M : rk_M) : Array Value → State → Prop := fun v U => v = (as.map (rk_vl E)).toArray ∧ (∀ a ∈ as, rk_ok E a) ∧ rk_Wd E cl M U
def rk_rm (d mc : Nat) : Room := { frames := 8 * d + 8, cells := mc, slots := 200 * mc, locals := 150 * d + 150 }
/-- a method's contract: d its depth, mc what it may make -/
def rk_Sp (l : Launch) (cl : List vw_C) (y : MethodName) (w : Cond) (d : Nat) (pre : List rk_V → rk_M → Prop) (post : List rk_V → rk_M → rk_Z → rk_M → Prop) (mc : Nat) : Prop :=
  ∀ (E : rk_E) (as : List rk_V) (M : rk_M), pre as M → rk_Met l y [w] (rk_rm d mc) (rk_Pc E cl as M) (rk_Qc E cl (post as M)) mc (200 * mc) (fun q => E.n0 ≤ q)
theorem W.rk_mono {p : Program} {l : Launch} {e : Env} {R : Room} {s : State} {m : MethodId} {args : Array Value} {below : List Frame} {meth : Method} {c : Code} {H : Heap} {locs : List Loc} {cells slots : Nat} {Q Q' : State → Prop} {g : JFrame} (hq : ∀ t, Q t → Q' t) (h : W p l e R s m args below meth c H locs cells slots Q g) : W p l e R s m args below meth c H locs cells slots Q' g := fun T hT X => by
  obtain ⟨t, a, b⟩ := h T hT X
  exact ⟨t, a, hq t b⟩
theorem rk_MQ.of {below : List Frame} {Qc : Array Value → State → Outcome → State → Prop} {a : Array Value} {s : State} {mc ms : Nat} {free : Addr → Prop} {t : State} (h : MQ below Qc a s mc ms free t) : rk_MQ below Qc a s mc ms free t := by
  obtain ⟨o, h1, h2, h3, L, h4, h5⟩ := h
  exact ⟨o, h1, h2, h3, h4.2.1, L, h4.2.2, h5⟩
section RKR
variable {p : Program} {l : Launch} {e : Env} {R : Room} {s : State} {m : MethodId} {args : Array Value} {below : List Frame} {meth : Method} {c : Code}
variable {cc : ByteArray} {E : rk_E} {cl : List vw_C} {M : rk_M} {pc : Nat} {al st rest : List rk_V} {κ mc : Nat} {post : rk_Z → rk_M → Prop}
/-- the end that a walk must reach -/
abbrev rk_QQ (below : List Frame) (args : Array Value) (s : State) (E : rk_E) (cl : List vw_C) (post : rk_Z → rk_M → Prop) (mc : Nat) : State → Prop := rk_MQ below (rk_Qc E cl post) args s mc (200 * mc) (fun q => E.n0 ≤ q)
theorem rk_endW (hTB : rk_TB s) (hO : rk_O E) (hT : rk_T E cl s) {H : Heap} {locs : List Loc} (hH : rk_H E cl s M H) (hS : va_S (fun q => E.n0 ≤ q) s.heap H locs) (hn : rk_NN E s) {t : State} (ht : t.heap = H) (hW : s.WarmedH t.vm) : rk_Wd E cl M t :=
  ⟨rk_TB.warm hW hTB, hO, hT.moved hW.alike, by rw [ht]; exact hH.moved hW.alike, hn.moved hW (by rw [ht]; exact hS.1) (fun q h1 h2 => by rw [ht]; exact hS.2.1 q h1 h2)⟩
theorem rk_s_ireturn (hx : p.tables.exec = Jvm.exec) (hb : c.code = cc) (hTB : rk_TB s) (hO : rk_O E) (hT : rk_T E cl s) (hn : rk_NN E s) (hlocks : meth.locks = false) {ty : FieldType} (hr : meth.sig.returnType = some ty) {x : Int} (hnar : narrow ty (.int (Int32.ofInt x)) = .int (Int32.ofInt x)) (hd : decode cc pc = .ok (.ireturn, 1)) (hp : post (.inl (some (rk_i x))) M) (hκ : κ ≤ mc) :
    rk_A p l e R s m args below meth c (rk_QQ below args s E cl post mc) E cl M pc al [rk_i x] κ := fun H locs ls hH hS hL hst => by
  refine W.widen hκ (Nat.mul_le_mul_left 200 hκ) (W.rk_mono (fun t => rk_MQ.of) ?_)
  exact W.zret hx hb hr hnar (fun t ht hW => ⟨⟨_, M, hp, ⟨rfl, (rk_okt hst).1⟩, rk_endW hTB hO hT hH hS hn ht hW⟩, hS.F ht⟩) hS.2.2 hd hlocks
theorem rk_s_areturn (hx : p.tables.exec = Jvm.exec) (hb : c.code = cc) (hTB : rk_TB s) (hO : rk_O E) (hT : rk_T E cl s) (hn : rk_NN E s) (hlocks : meth.locks = false) {ty : FieldType} (hr : meth.sig.returnType = some ty) (hty : (∃ n, ty = .object n) ∨ ∃ t, ty = .array t) {h : Nat × Int × Int} (hd : decode cc pc = .ok (.areturn, 1)) (hp : post (.inl (some (.inr (.inl h)))) M) (hκ : κ ≤ mc) :
    rk_A p l e R s m args below meth c (rk_QQ below args s E cl post mc) E cl M pc al [.inr (.inl h)] κ := fun H locs ls hH hS hL hst => by
  refine W.widen hκ (Nat.mul_le_mul_left 200 hκ) (W.rk_mono (fun t => rk_MQ.of) ?_)
  exact W.aret hx hb hr hty (Or.inr ⟨_, rfl⟩) (fun t ht hW => ⟨⟨_, M, hp, ⟨rfl, (rk_okt hst).1⟩, rk_endW hTB hO hT hH hS hn ht hW⟩, hS.F ht⟩) hS.2.2 hd hlocks
theorem rk_s_return (hx : p.tables.exec = Jvm.exec) (hb : c.code = cc) (hTB : rk_TB s) (hO : rk_O E) (hT : rk_T E cl s) (hn : rk_NN E s) (hlocks : meth.locks = false) (hr : meth.sig.returnType = none) (hd : decode cc pc = .ok (.return_, 1)) (hp : post (.inl none) M) (hκ : κ ≤ mc) :
    rk_A p l e R s m args below meth c (rk_QQ below args s E cl post mc) E cl M pc al [] κ := fun H locs ls hH hS hL hst => by
  refine W.widen hκ (Nat.mul_le_mul_left 200 hκ) (W.rk_mono (fun t => rk_MQ.of) ?_)
  exact W.vret hx hb hr (fun t ht hW => ⟨⟨_, M, hp, rfl, rk_endW hTB hO hT hH hS hn ht hW⟩, hS.F ht⟩) hS.2.2 hd hlocks
theorem rk_s_table (hx : p.tables.exec = Jvm.exec) (hb : c.code = cc) {Q : State → Prop} {d lo hi : Int} {offs : Array Int} {len : Nat} {x : Int} (hd : decode cc pc = .ok (.tableswitch d lo hi offs, len)) (ht : 0 ≤ (pc : Int) + d) (hts : ∀ (k : Nat) (off : Int), offs[k]? = some off → 0 ≤ (pc : Int) + off)
    (k1 : (x < lo ∨ hi < x) → rk_A p l e R s m args below meth c Q E cl M (rk_tg pc d) al st κ)
    (k2 : ∀ k : Nat, x = lo + k → x ≤ hi → ∃ off, offs[k]? = some off ∧ rk_A p l e R s m args below meth c Q E cl M (rk_tg pc off) al st κ) : rk_A p l e R s m args below meth c Q E cl M pc al (rk_i x :: st) κ := fun H locs ls hH hS hL hst => by
  have gx : rk_rg x := (rk_okt hst).1
  have h3 := (rk_okt hst).2
  have e := rk_toI gx
  by_cases h : x < lo ∨ hi < x
  · exact lv_tableOut hx hb hd (by rw [e]; exact h) (rk_tgt ht) (k1 h H locs ls hH hS hL h3)
  · have h1 : lo ≤ x ∧ x ≤ hi := by omega
    obtain ⟨off, ho, ka⟩ := k2 (x - lo).toNat (by omega) h1.2
    exact lv_tableIn hx hb hd (by rw [e]; omega) (by rw [e]; omega) (by rw [e]; exact ho) (rk_tgt (hts _ _ ho)) (ka H locs ls hH hS hL h3)
end RKR
/-! Calls in the walk -/
section RKC
variable {p : Program} {l : Launch} {e : Env} {R : Room} {s : State} {m : MethodId} {args : Array Value} {below : List Frame} {meth : Method} {c : Code} {Q : State → Prop}
variable {cc : ByteArray} {E : rk_E} {cl : List vw_C} {M : rk_M} {pc : Nat} {al st rest : List rk_V} {κ mc : Nat} {post : rk_Z → rk_M → Prop}
/-- from an invoking instruction to the callee's invocation -/
def rk_Iv (p : Program) (l : Launch) (e : Env) (R : Room) (s : State) (m : MethodId) (args : Array Value) (below : List Frame) (meth : Method) (c : Code) (ig : Jvm.ClassFile.Instr) (y : MethodName) (H : Heap) (as rest : List Value) : Prop :=
  ∀ (T : State) (locs : List Loc) (cells slots : Nat), T.heap = H → Stand p l e R s m args below meth c T locs cells slots → ∀ g : JFrame, g.method = m → g.stack = as.reverse ++ rest → decode c.code g.pc = .ok (ig, 3) →
    ∃ (mk : MethodId) (vm' : Vm), s.methodNamed? y = some mk ∧ Stand p l e R s m args below meth c (T.setVm vm') locs cells slots ∧
      ∀ target, Steps p.tables e below (doInvoke e ((T.setVm vm').setTop { g with stack := rest }) [] mk as.toArray).1 target → Steps p.tables e below (T.setTop g) target
/-- the callee is there -/
def rk_Rd (s : State) (y : MethodName) (w : Cond) : Prop := ∀ (U : State) (a : Array Value) (mk : MethodId), s.WarmedH U.vm → U.methodNamed? y = some mk → w.before a U = true ∧
  ∃ (methY : Method) (cY : Code) (kY : Class), U.vm.method? mk = some methY ∧ methY.code = some cY ∧ cY.maxLocals ≤ 100 ∧ U.vm.classes[mk.cls]? = some kY ∧ kY.init = .initialized
/-- an exception of class x is on its way at pc -/
def rk_TA (p : Program) (l : Launch) (e : Env) (R : Room) (s : State) (m : MethodId) (args : Array Value) (below : List Frame) (meth : Method) (c : Code) (Q : State → Prop) (E : rk_E) (cl : List vw_C) (x : Nat) (M : rk_M) (pc : Nat) (al rest : List rk_V) (κ : Nat) : Prop :=
  ∀ (H : Heap) (locs : List Loc) (ls : Array Slot), rk_H E cl s M H → va_S (fun q => E.n0 ≤ q) s.heap H locs → rk_L E al ls → ∀ (T : State) (a : Addr) (cell : Cell), T.heap = H → Stand p l e R s m args below meth c T locs κ (200 * κ) → H[a]? = some cell → cell.vm = .none → T.vm.findClass (rk_xn x) = some cell.cls →
    ∃ t, Steps p.tables e below ((T.setTop (F0 m pc ls (rest.map (rk_vl E)))).pushFrame (.throwing a)) t ∧ Q t
def rk_KA (p : Program) (l : Launch) (e : Env) (R : Room) (s : State) (m : MethodId) (args : Array Value) (below : List Frame) (meth : Method) (c : Code) (Q : State → Prop) (E : rk_E) (cl : List vw_C) (pc : Nat) (al rest : List rk_V) (κ : Nat) (z : rk_Z) (M : rk_M) : Prop := match z with
  | .inl none => rk_A p l e R s m args below meth c Q E cl M (pc + 3) al rest κ
  | .inl (some v) => rk_A p l e R s m args below meth c Q E cl M (pc + 3) al (v :: rest) κ
  | .inr x => rk_TA p l e R s m args below meth c Q E cl x M pc al rest κ
theorem rk_sumcat (E : rk_E) : ∀ rest : List rk_V, ((rest.map (rk_vl E)).map fun v => v.category).sum ≤ 2 * rest.length
  | [] => Nat.le_refl _
  | v :: vs => by
    have h := rk_sumcat E vs
    have h1 : (rk_vl E v).category ≤ 2 := by rcases lv_cat (rk_vl E v) with h | h <;> omega
    simp only [List.map_cons, List.sum_cons, List.length_cons]
    omega
theorem rk_s_call (hb : c.code = cc) (hTB : rk_TB s) (hO : rk_O E) (hT : rk_T E cl s) (hn : rk_NN E s) {y : MethodName} {w : Cond} {d mc' : Nat} {pre : List rk_V → rk_M → Prop} {post' : List rk_V → rk_M → rk_Z → rk_M → Prop} (hSp : rk_Sp l cl y w d pre post' mc') {as : List rk_V} {ig : Jvm.ClassFile.Instr}
    (hIv : ∀ H, rk_H E cl s M H → (∀ v ∈ as, rk_ok E v) → rk_Iv p l e R s m args below meth c ig y H (as.map (rk_vl E)) (rest.map (rk_vl E))) (hRd : rk_Rd s y w) (hfr : 8 * d + 9 ≤ R.frames) (hlo : 150 * d + 269 ≤ R.locals) (hc : κ + mc' ≤ R.cells) (hs : 200 * (κ + mc') ≤ R.slots)
    (hd : decode cc pc = .ok (ig, 3)) (hsz : al.length = c.maxLocals) (hpre : pre as M) (hrl : rest.length ≤ 4) (hst : st = as.reverse ++ rest) (kk : ∀ z M', post' as M z M' → rk_KA p l e R s m args below meth c Q E cl pc al rest (κ + mc') z M') : rk_A p l e R s m args below meth c Q E cl M pc al st κ := by
  intro H locs ls hH hS hL hok T hTh X
  subst hst
  have hoka : ∀ v ∈ as, rk_ok E v := fun v hv => hok v (List.mem_append_left _ (List.mem_reverse.mpr hv))
  have hokr : ∀ v ∈ rest, rk_ok E v := fun v hv => hok v (List.mem_append_right _ hv)
  obtain ⟨mk, vm', hnamed, X₁, hstep⟩ := hIv H hH hoka T locs κ (200 * κ) hTh X (F0 m pc ls ((as.reverse ++ rest).map (rk_vl E))) rfl (by simp [F0]) (by rw [hb]; exact hd)
  have hn1 : (T.setVm vm').methodNamed? y = some mk := X₁.named hnamed
  obtain ⟨hw, methY, cY, kY, hmY, hcY, hlY, hkY, hiY⟩ := hRd (T.setVm vm') (as.map (rk_vl E)).toArray mk X₁.warmed hn1
  have hheap : (T.setVm vm').heap = H := hTh
  have hcat := rk_sumcat E rest
  obtain ⟨o, t, V, L, X₂, ⟨⟨z, M', hp, hoc, hWd⟩, hF⟩, hV1, hV2, hL2, hsteps⟩ := rk_any X₁ (hSp E as M hpre) (g := { F0 m pc ls ((as.reverse ++ rest).map (rk_vl E)) with stack := rest.map (rk_vl E) }) (ig := ig) (len := 3) (mk := mk) (a := (as.map (rk_vl E)).toArray) rfl (by rw [← hsz]; exact hL.1.1) (by rw [hb]; exact hd) hn1 hmY hcY hkY hiY
    (fun w' hw' => by rw [List.mem_singleton.mp hw']; exact hw) hfr (by
      show 2 * (F0 m pc ls (rest.map (rk_vl E))).monitorRoom + ((rest.map (rk_vl E)).map fun v => v.category).sum + (cY.maxLocals + 11) + (150 * d + 150) ≤ R.locals
      have hm0 : (F0 m pc ls (rest.map (rk_vl E))).monitorRoom = 0 := rfl
      rw [hm0]; omega) hc (by show 200 * κ + 200 * mc' ≤ _; omega)
    ⟨rfl, hoka, rk_endW hTB hO hT hH hS hn (t := (T.setVm vm').calling _ mk _) hTh X₁.warmed⟩
  have hal : s.vm.Alike t.vm := by rw [← hV2]; exact X₂.warmed.alike
  have hsz1 : H.size ≤ t.heap.size := by have h1 := hF.1; rw [show ((T.setVm vm').calling { F0 m pc ls ((as.reverse ++ rest).map (rk_vl E)) with stack := rest.map (rk_vl E) } mk (as.map (rk_vl E)).toArray).heap = H from hTh] at h1; exact h1
  have hkeep : ∀ q, q < H.size → ¬ E.n0 ≤ q → t.heap[q]? = H[q]? := fun q h1 h2 => by
    have h3 := hF.2 q
    rw [show ((T.setVm vm').calling { F0 m pc ls ((as.reverse ++ rest).map (rk_vl E)) with stack := rest.map (rk_vl E) } mk (as.map (rk_vl E)).toArray).heap = H from hTh] at h3
    exact h3 h1 h2
  have hS' : va_S (fun q => E.n0 ≤ q) s.heap V.heap (locs ++ L) := by
    refine ⟨by rw [hV1]; exact Nat.le_trans hS.1 hsz1, fun q h1 h2 => ?_, fun q hq => ?_⟩
    · rw [hV1, hkeep q (Nat.lt_of_lt_of_le h1 hS.1) h2]; exact hS.2.1 q h1 h2
    · rcases List.mem_append.mp hq with h | h
      · exact hS.2.2 q h
      · exact hL2 q h
  have hH' : rk_H E cl s M' V.heap := by rw [hV1]; exact hWd.2.2.2.1.moved hal.symm
  rw [← Nat.mul_add] at X₂
  have k1 := kk z M' hp
  have hfin : ∃ t', Steps p.tables e below (rk_aft V { F0 m pc ls ((as.reverse ++ rest).map (rk_vl E)) with stack := rest.map (rk_vl E) } 3 o) t' ∧ Q t' := by
    match z, hoc, k1 with
    | .inl none, hoc, k1 =>
      subst hoc
      exact k1 V.heap (locs ++ L) ls hH' hS' hL hokr V rfl X₂
    | .inl (some v), hoc, k1 =>
      obtain ⟨rfl, hv⟩ := hoc
      exact k1 V.heap (locs ++ L) ls hH' hS' hL (rk_okc hv hokr) V rfl X₂
    | .inr x, hoc, k1 =>
      obtain ⟨a, cell, rfl, h1, h2, h3⟩ := hoc
      exact k1 V.heap (locs ++ L) ls hH' hS' hL V a cell rfl X₂ (by rw [hV1]; exact h1) h2 (by rw [hV2]; exact h3)
  obtain ⟨t', ht1, ht2⟩ := hfin
  exact ⟨t', hstep _ (hsteps.trans ht1), ht2⟩
/-- no handler: it leaves the method -/
theorem rk_TA_out (hTB : rk_TB s) (hO : rk_O E) (hT : rk_T E cl s) (hn : rk_NN E s) (hlocks : meth.locks = false) (hout : ∀ x ∈ c.exceptionTable.toList, covers x pc = false) {x : Nat} (hp : post (.inr x) M) (hκ : κ ≤ mc) :
    rk_TA p l e R s m args below meth c (rk_QQ below args s E cl post mc) E cl x M pc al rest κ := by
  intro H locs ls hH hS hL T a cell hTh X hcell hvm hcls
  have X' := stand_widen (k := mc) (n := 200 * mc) X hκ (Nat.mul_le_mul_left 200 hκ)
  obtain ⟨h1, h2, h3, h4, h5⟩ := X'.leaveThrown a (g := F0 m pc ls (rest.map (rk_vl E))) rfl rfl rfl hout hlocks
  refine ⟨_, h1, .threw a, h2, h3, ⟨⟨.inr x, M, hp, ⟨a, cell, rfl, ?_, hvm, ?_⟩, rk_endW hTB hO hT hH hS hn hTh h4⟩, hS.F hTh⟩, h4, locs, h5, hS.2.2⟩
  · show T.heap[a]? = _
    rw [hTh]; exact hcell
  · exact hcls
end RKC
end
section
/-! The step and the walk -/
section RKZ
variable {p : Program} {l : Launch} {e : Env} {R : Room} {s : State} {m : MethodId} {args : Array Value} {below : List Frame} {meth : Method} {c : Code}
variable {cc : ByteArray} {E : rk_E} {cl : List vw_C} {C : rk_C} {post : rk_Z → rk_M → Prop}
/-- an instruction's numbers are within -/
def rk_im (pc : Nat) (i : Jvm.ClassFile.Instr) : Bool := match i with
  | .iconst x => decide (-1 ≤ x) && decide (x ≤ 5)
  | .bipush x => decide (-128 ≤ x) && decide (x ≤ 127)
  | .sipush x => decide (-32768 ≤ x) && decide (x ≤ 32767)
  | .goto off => decide (0 ≤ (pc : Int) + off)
  | .ifCond _ off => decide (0 ≤ (pc : Int) + off)
  | .if_icmp _ off => decide (0 ≤ (pc : Int) + off)
  | .tableswitch d _ _ offs => decide (0 ≤ (pc : Int) + d) && offs.toList.all (fun off => decide (0 ≤ (pc : Int) + off))
  | _ => true
def rk_ln (i : Jvm.ClassFile.Instr) : Nat := match i with
  | .bipush _ => 2
  | .iload _ => 2
  | .aload _ => 2
  | .istore _ => 2
  | .astore _ => 2
  | .sipush _ => 3
  | .iinc _ _ => 3
  | .goto _ => 3
  | .ifCond _ _ => 3
  | .if_icmp _ _ => 3
  | .getfield _ => 3
  | .putfield _ => 3
  | .invokevirtual _ => 3
  | .invokestatic _ => 3
  | .invokespecial _ => 3
  | .new _ => 3
  | .tableswitch _ _ _ _ => 0
  | _ => 1
/-- what a method's words give for the walk of its code -/
def rk_Cx (p : Program) (l : Launch) (e : Env) (R : Room) (s : State) (m : MethodId) (args : Array Value) (below : List Frame) (meth : Method) (c : Code) (cc : ByteArray) (E : rk_E) (cl : List vw_C) (C : rk_C) (nL : Nat) (post : rk_Z → rk_M → Prop) : Prop :=
  (∀ pc i n, C.code pc = some (i, n) → decode cc pc = .ok (i, n) ∧ rk_im pc i = true ∧ (rk_ln i = n ∨ rk_ln i = 0)) ∧
  (∀ idx ci k z, C.fld idx = some (ci, k, z) → rk_FL s m args cl idx ci k z) ∧
  (∀ idx ci k z q f fs on rn t, C.fld idx = some (ci, k, z) → cl[ci]? = some q → rk_kd E.L t = (1, ci, fs, on, rn) → fs[k]? = some f → f ≤ 1 → (∃ pc, ∃ n, C.code pc = some (.putfield idx, n)) → (q.2.1 k).2.2.2 = false ∧ (f = 0 → parseFieldDescriptor (q.2.1 k).2.2.1 = some .int) ∧ (f = 1 → parseFieldDescriptor (q.2.1 k).2.2.1 = some .boolean)) ∧
  (∀ pc idx i F, C.call idx = some F → C.code pc = some (i, 3) → ((∃ j, i = .invokevirtual j ∧ idx = 2 * j) ∨ ∃ j, i = .invokestatic j ∧ idx = 2 * j + 1) → ∀ (M : rk_M) (al as rest : List rk_V) (κ : Nat), al.length = nL → as.length = F.1 → rest.length ≤ 4 → F.2.1 as M → κ + F.2.2.2 ≤ C.most →
    (∀ z M', F.2.2.1 as M z M' → rk_KA p l e R s m args below meth c (rk_QQ below args s E cl post C.most) E cl pc al rest (κ + F.2.2.2) z M') → rk_A p l e R s m args below meth c (rk_QQ below args s E cl post C.most) E cl M pc al (as.reverse ++ rest) κ) ∧
  (∀ pc x, C.thr pc = some x → ∀ (M : rk_M) (al : List rk_V) (κ : Nat), al.length = nL → κ + 1 ≤ C.most → post (.inr x) M → rk_A p l e R s m args below meth c (rk_QQ below args s E cl post C.most) E cl M pc al [] κ) ∧
  (∀ pc x, (C.hdl pc x = none → (∃ (idx : Nat) (i : Jvm.ClassFile.Instr) (F : rk_F) (as : List rk_V) (M M' : rk_M), C.call idx = some F ∧ C.code pc = some (i, 3) ∧ ((∃ j, i = .invokevirtual j ∧ idx = 2 * j) ∨ ∃ j, i = .invokestatic j ∧ idx = 2 * j + 1) ∧ F.2.2.1 as M (.inr x) M') → ∀ z ∈ c.exceptionTable.toList, covers z pc = false) ∧ ∀ h, C.hdl pc x = some h → ∀ (M : rk_M) (al rest : List rk_V) (κ : Nat), (∀ a : Int, rk_A p l e R s m args below meth c (rk_QQ below args s E cl post C.most) E cl M h al [rk_r 0 a 0] κ) → rk_TA p l e R s m args below meth c (rk_QQ below args s E cl post C.most) E cl x M pc al rest κ) ∧
  ((C.ret = 0 ∧ meth.sig.returnType = none) ∨ (C.ret = 1 ∧ meth.sig.returnType = some .int) ∨ (C.ret = 2 ∧ meth.sig.returnType = some .boolean) ∨ (C.ret = 3 ∧ meth.sig.returnType = some .char) ∨ (C.ret = 4 ∧ ∃ n, meth.sig.returnType = some (.object n)))
theorem rk_nar {ty : FieldType} {x : Int} (h : (ty = .int) ∨ (ty = .boolean ∧ (x = 0 ∨ x = 1)) ∨ (ty = .char ∧ 0 ≤ x ∧ x < 65536)) : narrow ty (.int (Int32.ofInt x)) = .int (Int32.ofInt x) := by
  rcases h with rfl | ⟨rfl, rfl | rfl⟩ | ⟨rfl, h0, h1⟩
  · rfl
  · decide
  · decide
  · obtain ⟨a, rfl⟩ := Int.eq_ofNat_of_zero_le h0
    rw [rk_ofN]; exact (pk_charN (by omega)).1
set_option maxHeartbeats 4000000 in
theorem rk_len {L t k n : Nat} {fs : List Nat} {on rn : Int} (hL : L < 2147483648) (h : rk_kd L t = (k, n, fs, on, rn)) : n < 2147483648 := by
  have k0 : ∀ q ∈ rk_k0, q.2.1 < 2147483648 := by decide
  have key : ∀ q ∈ rk_kl L, q.2.1 < 2147483648 := by
    intro q hq
    rcases List.mem_append.mp hq with hq | hq
    · exact k0 q hq
    · rw [List.mem_singleton.mp hq]; exact hL
  unfold rk_kd at h
  rw [List.getD_eq_getElem?_getD] at h
  cases hq : (rk_kl L)[t]? with
  | none => rw [hq] at h; cases h; omega
  | some q =>
    rw [hq] at h
    have h2 := key q (List.mem_of_getElem? hq)
    have h3 : q = (k, n, fs, on, rn) := h
    rw [h3] at h2; exact h2
theorem rk_step_call {nL idx : Nat} {i : Jvm.ClassFile.Instr} (hii : (∃ j, i = .invokevirtual j ∧ idx = 2 * j) ∨ ∃ j, i = .invokestatic j ∧ idx = 2 * j + 1) {go : rk_G}
    (hgo : ∀ M pc al st κ, al.length = nL → go M pc al st κ → rk_A p l e R s m args below meth c (rk_QQ below args s E cl post C.most) E cl M pc al st κ)
    (hcall : ∀ pc idx i F, C.call idx = some F → C.code pc = some (i, 3) → ((∃ j, i = .invokevirtual j ∧ idx = 2 * j) ∨ ∃ j, i = .invokestatic j ∧ idx = 2 * j + 1) → ∀ (M : rk_M) (al as rest : List rk_V) (κ : Nat), al.length = nL → as.length = F.1 → rest.length ≤ 4 → F.2.1 as M → κ + F.2.2.2 ≤ C.most →
      (∀ z M', F.2.2.1 as M z M' → rk_KA p l e R s m args below meth c (rk_QQ below args s E cl post C.most) E cl pc al rest (κ + F.2.2.2) z M') → rk_A p l e R s m args below meth c (rk_QQ below args s E cl post C.most) E cl M pc al (as.reverse ++ rest) κ)
    (hhdl : ∀ pc x, (C.hdl pc x = none → (∃ (idx : Nat) (i : Jvm.ClassFile.Instr) (F : rk_F) (as : List rk_V) (M M' : rk_M), C.call idx = some F ∧ C.code pc = some (i, 3) ∧ ((∃ j, i = .invokevirtual j ∧ idx = 2 * j) ∨ ∃ j, i = .invokestatic j ∧ idx = 2 * j + 1) ∧ F.2.2.1 as M (.inr x) M') → ∀ z ∈ c.exceptionTable.toList, covers z pc = false) ∧ ∀ h, C.hdl pc x = some h → ∀ (M : rk_M) (al rest : List rk_V) (κ : Nat), (∀ a : Int, rk_A p l e R s m args below meth c (rk_QQ below args s E cl post C.most) E cl M h al [rk_r 0 a 0] κ) → rk_TA p l e R s m args below meth c (rk_QQ below args s E cl post C.most) E cl x M pc al rest κ)
    (hTB : rk_TB s) (hO : rk_O E) (hT : rk_T E cl s) (hn : rk_NN E s) (hlocks : meth.locks = false) {M : rk_M} {pc : Nat} {al st : List rk_V} {κ : Nat} (hal : al.length = nL) (hi : C.code pc = some (i, 3))
    (h : rk_cl C go (fun z M κ => post z M ∧ κ ≤ C.most) idx M pc al st κ) : rk_A p l e R s m args below meth c (rk_QQ below args s E cl post C.most) E cl M pc al st κ := by
  simp only [rk_cl] at h
  split at h
  · exact h.elim
  · rename_i n' pre post' mc' hF
    split at h
    · exact h.elim
    · rename_i hlen
      simp only [Bool.and_eq_true, Nat.ble_eq] at hlen
      obtain ⟨h1, h2, h3⟩ := h
      have hst : st = (st.take n').reverse.reverse ++ st.drop n' := by rw [List.reverse_reverse, List.take_append_drop]
      rw [hst]
      refine hcall pc idx i _ hF hi hii M al (st.take n').reverse (st.drop n') κ hal (by rw [List.length_reverse, List.length_take]; show min n' _ = n'; omega) (by rw [List.length_drop]; omega) h1 h2 (fun z M' hz => ?_)
      have h4 := h3 z M' hz
      match z, hz, h4 with
      | .inl none, hz, h4 => exact hgo M' (pc + 3) al (st.drop n') (κ + mc') hal h4
      | .inl (some v), hz, h4 => exact hgo M' (pc + 3) al (v :: st.drop n') (κ + mc') hal h4
      | .inr x, hz, h4 =>
        simp only [rk_bk] at h4
        split at h4
        · rename_i hh
          exact rk_TA_out hTB hO hT hn hlocks ((hhdl pc x).1 hh ⟨idx, i, _, _, _, _, hF, hi, hii, hz⟩) h4.1 h4.2
        · rename_i hp hh
          exact (hhdl pc x).2 hp hh M' al (st.drop n') (κ + mc') (fun a => hgo M' hp al [rk_r 0 a 0] (κ + mc') hal (h4 a))
set_option maxHeartbeats 4000000 in
theorem rk_step {nL : Nat} (hx : p.tables.exec = Jvm.exec) (hb : c.code = cc) (hTB : rk_TB s) (hO : rk_O E) (hT : rk_T E cl s) (hn : rk_NN E s) (hlocks : meth.locks = false) (hC : rk_Cx p l e R s m args below meth c cc E cl C nL post) {go : rk_G}
    (hgo : ∀ M pc al st κ, al.length = nL → go M pc al st κ → rk_A p l e R s m args below meth c (rk_QQ below args s E cl post C.most) E cl M pc al st κ) {i : Jvm.ClassFile.Instr} {n : Nat} {M : rk_M} {pc : Nat} {al st : List rk_V} {κ : Nat} (hal : al.length = nL) (hi : C.code pc = some (i, n))
    (h : rk_st C E.L go (fun z M κ => post z M ∧ κ ≤ C.most) i M pc al st κ) : rk_A p l e R s m args below meth c (rk_QQ below args s E cl post C.most) E cl M pc al st κ := by
  obtain ⟨hdec, hfld, hfn, hcall, hthr, hhdl, hret⟩ := hC
  obtain ⟨hd, him, hln⟩ := hdec pc i n hi
  have hset : ∀ (k : Nat) (v : rk_V), (al.set k v).length = nL := fun k v => by rw [List.length_set]; exact hal
  cases i with
  | iconst x =>
    obtain rfl : 1 = n := by simpa [rk_ln] using hln
    exact rk_s_iconst hx hb hd (by simp [rk_im] at him; unfold rk_rg; omega) (hgo M (pc + 1) al (rk_i x :: st) κ hal h)
  | bipush x =>
    obtain rfl : 2 = n := by simpa [rk_ln] using hln
    exact rk_s_bipush hx hb hd (by simp [rk_im] at him; omega) (hgo M (pc + 2) al (rk_i x :: st) κ hal h)
  | sipush x =>
    obtain rfl : 3 = n := by simpa [rk_ln] using hln
    exact rk_s_sipush hx hb hd (by simp [rk_im] at him; omega) (hgo M (pc + 3) al (rk_i x :: st) κ hal h)
  | iload_n k =>
    obtain rfl : 1 = n := by simpa [rk_ln] using hln
    simp only [rk_st, rk_lo] at h
    split at h
    · rename_i x hk
      exact rk_s_iload_n hx hb hd hk (hgo M (pc + 1) al (rk_i x :: st) κ hal h)
    · exact h.elim
  | iload k =>
    obtain rfl : 2 = n := by simpa [rk_ln] using hln
    simp only [rk_st, rk_lo] at h
    split at h
    · rename_i x hk
      exact rk_s_iload hx hb hd hk (hgo M (pc + 2) al (rk_i x :: st) κ hal h)
    · exact h.elim
  | aload_n k =>
    obtain rfl : 1 = n := by simpa [rk_ln] using hln
    simp only [rk_st, rk_la] at h
    split at h
    · rename_i x hk
      exact rk_s_aload_n hx hb hd hk (hgo M (pc + 1) al (.inr (.inl x) :: st) κ hal h)
    · exact h.elim
  | aload k =>
    obtain rfl : 2 = n := by simpa [rk_ln] using hln
    simp only [rk_st, rk_la] at h
    split at h
    · rename_i x hk
      exact rk_s_aload hx hb hd hk (hgo M (pc + 2) al (.inr (.inl x) :: st) κ hal h)
    · exact h.elim
  | istore_n k =>
    obtain rfl : 1 = n := by simpa [rk_ln] using hln
    simp only [rk_st, rk_so] at h
    split at h
    · rename_i x r
      split at h
      · rename_i w hk
        exact rk_s_istore_n hx hb hd hk (hgo M (pc + 1) (al.set k.val (rk_i x)) r κ (hset _ _) h)
      · exact h.elim
    · exact h.elim
  | istore k =>
    obtain rfl : 2 = n := by simpa [rk_ln] using hln
    simp only [rk_st, rk_so] at h
    split at h
    · rename_i x r
      split at h
      · rename_i w hk
        exact rk_s_istore hx hb hd hk (hgo M (pc + 2) (al.set k (rk_i x)) r κ (hset _ _) h)
      · exact h.elim
    · exact h.elim
  | astore_n k =>
    obtain rfl : 1 = n := by simpa [rk_ln] using hln
    simp only [rk_st, rk_so] at h
    split at h
    · rename_i x r
      split at h
      · rename_i w hk
        exact rk_s_astore_n hx hb hd hk (hgo M (pc + 1) (al.set k.val (.inr (.inl x))) r κ (hset _ _) h)
      · exact h.elim
    · exact h.elim
  | astore k =>
    obtain rfl : 2 = n := by simpa [rk_ln] using hln
    simp only [rk_st, rk_so] at h
    split at h
    · rename_i x r
      split at h
      · rename_i w hk
        exact rk_s_astore hx hb hd hk (hgo M (pc + 2) (al.set k (.inr (.inl x))) r κ (hset _ _) h)
      · exact h.elim
    · exact h.elim
  | iinc k x =>
    obtain rfl : 3 = n := by simpa [rk_ln] using hln
    simp only [rk_st, rk_lo] at h
    split at h
    · rename_i y hk
      exact rk_s_iinc hx hb hd hk h.1 (hgo M (pc + 3) (al.set k (rk_i (y + x))) st κ (hset _ _) h.2)
    · exact h.elim
  | iadd =>
    obtain rfl : 1 = n := by simpa [rk_ln] using hln
    simp only [rk_st] at h
    split at h
    · rename_i y x r
      exact rk_s_iadd hx hb hd h.1 (hgo M (pc + 1) al (rk_i (x + y) :: r) κ hal h.2)
    · exact h.elim
  | isub =>
    obtain rfl : 1 = n := by simpa [rk_ln] using hln
    simp only [rk_st] at h
    split at h
    · rename_i y x r
      exact rk_s_isub hx hb hd h.1 (hgo M (pc + 1) al (rk_i (x - y) :: r) κ hal h.2)
    · exact h.elim
  | imul =>
    obtain rfl : 1 = n := by simpa [rk_ln] using hln
    simp only [rk_st] at h
    split at h
    · rename_i y x r
      exact rk_s_imul hx hb hd h.1 (hgo M (pc + 1) al (rk_i (x * y) :: r) κ hal h.2)
    · exact h.elim
  | idiv =>
    obtain rfl : 1 = n := by simpa [rk_ln] using hln
    simp only [rk_st] at h
    split at h
    · rename_i y x r
      exact rk_s_idiv hx hb hd h.1 (hgo M (pc + 1) al (rk_i (x / y) :: r) κ hal h.2)
    · exact h.elim
  | irem =>
    obtain rfl : 1 = n := by simpa [rk_ln] using hln
    simp only [rk_st] at h
    split at h
    · rename_i y x r
      exact rk_s_irem hx hb hd h.1 (hgo M (pc + 1) al (rk_i (x % y) :: r) κ hal h.2)
    · exact h.elim
  | iand =>
    obtain rfl : 1 = n := by simpa [rk_ln] using hln
    simp only [rk_st] at h
    split at h
    · rename_i y x r
      obtain ⟨rfl, h⟩ := h
      exact rk_s_iand hx hb hd (hgo M (pc + 1) al (rk_i (x % 32) :: r) κ hal h)
    · exact h.elim
  | i2c =>
    obtain rfl : 1 = n := by simpa [rk_ln] using hln
    simp only [rk_st] at h
    split at h
    · rename_i x r
      exact rk_s_i2c hx hb hd (hgo M (pc + 1) al (rk_i (x % 65536) :: r) κ hal h)
    · exact h.elim
  | i2l =>
    obtain rfl : 1 = n := by simpa [rk_ln] using hln
    simp only [rk_st] at h
    split at h
    · rename_i x r
      exact rk_s_i2l hx hb hd (hgo M (pc + 1) al (rk_l x :: r) κ hal h)
    · exact h.elim
  | lcmp =>
    obtain rfl : 1 = n := by simpa [rk_ln] using hln
    simp only [rk_st] at h
    split at h
    · rename_i y x r
      exact rk_s_lcmp hx hb hd (fun q => hgo M (pc + 1) al (rk_i 0 :: r) κ hal (h.1 q)) (fun q => hgo M (pc + 1) al (rk_i (-1) :: r) κ hal (h.2.1 q)) (fun q => hgo M (pc + 1) al (rk_i 1 :: r) κ hal (h.2.2 q))
    · exact h.elim
  | dup =>
    obtain rfl : 1 = n := by simpa [rk_ln] using hln
    simp only [rk_st] at h
    split at h
    · rename_i x r
      exact rk_s_dup (v := rk_i x) hx hb rfl hd (hgo M (pc + 1) al (rk_i x :: rk_i x :: r) κ hal h)
    · rename_i x r
      exact rk_s_dup (v := .inr (.inl x)) hx hb rfl hd (hgo M (pc + 1) al (.inr (.inl x) :: .inr (.inl x) :: r) κ hal h)
    · exact h.elim
  | dup2 =>
    obtain rfl : 1 = n := by simpa [rk_ln] using hln
    simp only [rk_st] at h
    split at h
    · rename_i x y r
      exact rk_s_dup2 (v := rk_i x) (w := .inr (.inl y)) hx hb rfl rfl hd (hgo M (pc + 1) al (rk_i x :: .inr (.inl y) :: rk_i x :: .inr (.inl y) :: r) κ hal h)
    · exact h.elim
  | pop =>
    obtain rfl : 1 = n := by simpa [rk_ln] using hln
    simp only [rk_st] at h
    split at h
    · rename_i x r
      exact rk_s_pop (v := rk_i x) hx hb rfl hd (hgo M (pc + 1) al r κ hal h)
    · rename_i x r
      exact rk_s_pop (v := .inr (.inl x)) hx hb rfl hd (hgo M (pc + 1) al r κ hal h)
    · exact h.elim
  | ifCond cd off =>
    obtain rfl : 3 = n := by simpa [rk_ln] using hln
    simp only [rk_st] at h
    split at h
    · rename_i x r
      refine rk_s_if hx hb hd (by simpa [rk_im] using him) ?_
      cases cd <;> exact ⟨fun q => hgo M (rk_tg pc off) al r κ hal (h.1 q), fun q => hgo M (pc + 3) al r κ hal (h.2 q)⟩
    · exact h.elim
  | if_icmp cd off =>
    obtain rfl : 3 = n := by simpa [rk_ln] using hln
    simp only [rk_st] at h
    split at h
    · rename_i y x r
      refine rk_s_icmp hx hb hd (by simpa [rk_im] using him) ?_
      cases cd <;> exact ⟨fun q => hgo M (rk_tg pc off) al r κ hal (h.1 q), fun q => hgo M (pc + 3) al r κ hal (h.2 q)⟩
    · exact h.elim
  | goto off =>
    obtain rfl : 3 = n := by simpa [rk_ln] using hln
    exact rk_s_goto hx hb hd (by simpa [rk_im] using him) (hgo M (rk_tg pc off) al st κ hal h)
  | getfield idx =>
    obtain rfl : 3 = n := by simpa [rk_ln] using hln
    simp only [rk_st] at h
    split at h
    · exact h.elim
    · rename_i ci k z hf
      split at h
      · rename_i t o r rest
        split at h
        · rename_i ci' fs on rn hk
          have h9 := rk_gd_of h
          clear h
          obtain ⟨rfl, h⟩ := h9
          split at h
          · exact h.elim
          · rename_i hfk
            exact rk_s_getfield hx hb hO hT (hfld _ _ _ _ hf) hd hk hfk (Or.inl ⟨by omega, rfl⟩) (hgo M (pc + 3) al (rk_i (M t o r z) :: rest) κ hal h)
          · rename_i hfk
            exact rk_s_getfield hx hb hO hT (hfld _ _ _ _ hf) hd hk hfk (Or.inl ⟨by omega, rfl⟩) (hgo M (pc + 3) al (rk_i (M t o r z) :: rest) κ hal h)
          · rename_i f h0 h1 hfk
            exact rk_s_getfield hx hb hO hT (hfld _ _ _ _ hf) hd hk hfk (Or.inr ⟨by rcases f with _ | _ | f <;> first | omega | exact (h0 rfl).elim | exact (h1 rfl).elim, rfl⟩) (hgo M (pc + 3) al (rk_r f o 0 :: rest) κ hal h)
        · exact h.elim
      · exact h.elim
  | putfield idx =>
    obtain rfl : 3 = n := by simpa [rk_ln] using hln
    simp only [rk_st] at h
    split at h
    · exact h.elim
    · rename_i ci k z hf
      split at h
      · rename_i v t o r rest
        split at h
        · rename_i ci' fs on rn hk
          have h9 := rk_gd_of h
          clear h
          obtain ⟨rfl, h⟩ := h9
          split at h
          · rename_i hfk
            exact rk_s_putfield hx hb hO hT (hfld _ _ _ _ hf) (fun q hq => hfn _ _ _ _ q 0 _ _ _ t hf hq hk hfk (by omega) ⟨pc, 3, hi⟩) hd hk hfk (by omega) (fun q => by omega) (hgo (rk_up M t o r z v) (pc + 3) al rest κ hal h)
          · rename_i hfk
            exact rk_s_putfield hx hb hO hT (hfld _ _ _ _ hf) (fun q hq => hfn _ _ _ _ q 1 _ _ _ t hf hq hk hfk (by omega) ⟨pc, 3, hi⟩) hd hk hfk (by omega) (fun _ => h.1) (hgo (rk_up M t o r z v) (pc + 3) al rest κ hal h.2)
          · exact h.elim
        · exact h.elim
      · exact h.elim
  | iaload =>
    obtain rfl : 1 = n := by simpa [rk_ln] using hln
    simp only [rk_st] at h
    split at h
    · rename_i j t o r rest
      split at h
      · rename_i hk
        exact rk_s_iaload hx hb hT hd hk h.1 (hgo M (pc + 1) al (rk_i (M t o r j) :: rest) κ hal h.2)
      · rename_i hk
        exact rk_s_ialoadX hx hb hd hk h.1 (hgo M (pc + 1) al (rk_i (M t o r j) :: rest) κ hal h.2)
      · exact h.elim
    · exact h.elim
  | baload =>
    obtain rfl : 1 = n := by simpa [rk_ln] using hln
    simp only [rk_st] at h
    split at h
    · rename_i j t o r rest
      split at h
      · rename_i hk
        exact rk_s_baload hx hb hT hd hk h.1 (hgo M (pc + 1) al (rk_i (M t o r j) :: rest) κ hal h.2)
      · exact h.elim
    · exact h.elim
  | laload =>
    obtain rfl : 1 = n := by simpa [rk_ln] using hln
    simp only [rk_st] at h
    split at h
    · rename_i j t o r rest
      split at h
      · rename_i hk
        exact rk_s_laload hx hb hT hd hk h.1 (hgo M (pc + 1) al (rk_l (M t o r j) :: rest) κ hal h.2)
      · exact h.elim
    · exact h.elim
  | iastore =>
    obtain rfl : 1 = n := by simpa [rk_ln] using hln
    simp only [rk_st] at h
    split at h
    · rename_i v j t o r rest
      split at h
      · rename_i hk
        exact rk_s_iastore hx hb hO hT hd hk h.1 (hgo (rk_up M t o r j v) (pc + 1) al rest κ hal h.2)
      · exact h.elim
    · exact h.elim
  | bastore =>
    obtain rfl : 1 = n := by simpa [rk_ln] using hln
    simp only [rk_st] at h
    split at h
    · rename_i v j t o r rest
      split at h
      · rename_i hk
        exact rk_s_bastore hx hb hO hT hd hk h.1 h.2.1 (hgo (rk_up M t o r j v) (pc + 1) al rest κ hal h.2.2)
      · exact h.elim
    · exact h.elim
  | lastore =>
    obtain rfl : 1 = n := by simpa [rk_ln] using hln
    simp only [rk_st] at h
    split at h
    · rename_i v j t o r rest
      split at h
      · rename_i hk
        exact rk_s_lastore hx hb hO hT hd hk h.1 (hgo (rk_up M t o r j v) (pc + 1) al rest κ hal h.2)
      · exact h.elim
    · exact h.elim
  | aaload =>
    obtain rfl : 1 = n := by simpa [rk_ln] using hln
    simp only [rk_st] at h
    split at h
    · rename_i j t o r rest
      split at h
      · rename_i n' t' on rn hk
        exact rk_s_aaload0 hx hb hO hT hd hk h.1 (hgo M (pc + 1) al (rk_r t' o j :: rest) κ hal h.2)
      · rename_i n' t' on rn hk
        exact rk_s_aaload1 hx hb hO hT hd hk h.1 (hgo M (pc + 1) al (rk_r t' j 0 :: rest) κ hal h.2)
      · exact h.elim
    · exact h.elim
  | arraylength =>
    obtain rfl : 1 = n := by simpa [rk_ln] using hln
    simp only [rk_st] at h
    split at h
    · rename_i t o r rest
      split at h
      · rename_i n' fs on rn hk
        exact rk_s_alen hx hb hT (rk_len hn.2.1 hk) hd hk (hgo M (pc + 1) al (rk_i n' :: rest) κ hal h)
      · rename_i n' fs on rn hk
        exact rk_s_alenX hx hb (rk_len hn.2.1 hk) hd hk (hgo M (pc + 1) al (rk_i n' :: rest) κ hal h)
      · exact h.elim
    · exact h.elim
  | invokevirtual idx =>
    obtain rfl : 3 = n := by simpa [rk_ln] using hln
    exact rk_step_call (Or.inl ⟨idx, rfl, rfl⟩) hgo hcall hhdl hTB hO hT hn hlocks hal hi h
  | invokestatic idx =>
    obtain rfl : 3 = n := by simpa [rk_ln] using hln
    exact rk_step_call (Or.inr ⟨idx, rfl, rfl⟩) hgo hcall hhdl hTB hO hT hn hlocks hal hi h
  | new idx =>
    simp only [rk_st] at h
    split at h
    · split at h
      · exact h.elim
      · rename_i x hk
        exact hthr pc x hk M al κ hal h.1 h.2.1
    · exact h.elim
  | tableswitch d lo hi offs =>
    simp only [rk_st] at h
    split at h
    · rename_i x r
      simp only [rk_im, Bool.and_eq_true, decide_eq_true_eq, List.all_eq_true] at him
      refine rk_s_table hx hb hd him.1 (fun k off hk => him.2 off (by simpa using Array.mem_of_getElem? hk)) (fun q => hgo M (rk_tg pc d) al r κ hal (h.1 q)) (fun k h1 h2 => ?_)
      have h3 := h.2 k h1 h2
      split at h3
      · exact h3.elim
      · rename_i off hk
        exact ⟨off, hk, hgo M (rk_tg pc off) al r κ hal h3⟩
    · exact h.elim
  | ireturn =>
    obtain rfl : 1 = n := by simpa [rk_ln] using hln
    simp only [rk_st] at h
    split at h
    · rename_i x
      simp only [rk_rt] at h
      split at h
      · rename_i hr
        have hr' : meth.sig.returnType = some .int := by rcases hret with q | q | q | q | q <;> simp_all
        exact rk_s_ireturn hx hb hTB hO hT hn hlocks hr' (rk_nar (Or.inl rfl)) hd h.1 h.2
      · rename_i hr
        have hr' : meth.sig.returnType = some .boolean := by rcases hret with q | q | q | q | q <;> simp_all
        exact rk_s_ireturn hx hb hTB hO hT hn hlocks hr' (rk_nar (Or.inr (Or.inl ⟨rfl, h.1⟩))) hd h.2.1 h.2.2
      · rename_i hr
        have hr' : meth.sig.returnType = some .char := by rcases hret with q | q | q | q | q <;> simp_all
        exact rk_s_ireturn hx hb hTB hO hT hn hlocks hr' (rk_nar (Or.inr (Or.inr ⟨rfl, h.1⟩))) hd h.2.1 h.2.2
      · exact h.elim
    · exact h.elim
  | areturn =>
    obtain rfl : 1 = n := by simpa [rk_ln] using hln
    simp only [rk_st] at h
    split at h
    · rename_i x
      have hr' : ∃ nm, meth.sig.returnType = some (.object nm) := by
        rcases hret with q | q | q | q | q
        · have := h.1; omega
        · have := h.1; omega
        · have := h.1; omega
        · have := h.1; omega
        · exact q.2
      obtain ⟨nm, hr'⟩ := hr'
      exact rk_s_areturn hx hb hTB hO hT hn hlocks hr' (Or.inl ⟨nm, rfl⟩) hd h.2.1 h.2.2
    · exact h.elim
  | return_ =>
    obtain rfl : 1 = n := by simpa [rk_ln] using hln
    simp only [rk_st] at h
    split at h
    · have hr' : meth.sig.returnType = none := by
        rcases hret with q | q | q | q | q
        · exact q.2
        · have := h.1; omega
        · have := h.1; omega
        · have := h.1; omega
        · have := h.1; omega
      exact rk_s_return hx hb hTB hO hT hn hlocks hr' hd h.2.1 h.2.2
    · exact h.elim
  | _ => exact h.elim
/-- the walk -/
theorem rk_run {nL : Nat} (hx : p.tables.exec = Jvm.exec) (hb : c.code = cc) (hTB : rk_TB s) (hO : rk_O E) (hT : rk_T E cl s) (hn : rk_NN E s) (hlocks : meth.locks = false) (hC : rk_Cx p l e R s m args below meth c cc E cl C nL post) {G : rk_G}
    (hG : ∀ M pc al st κ, al.length = nL → G M pc al st κ → rk_A p l e R s m args below meth c (rk_QQ below args s E cl post C.most) E cl M pc al st κ) : ∀ (f : Nat) (M : rk_M) (pc : Nat) (al st : List rk_V) (κ : Nat), al.length = nL → rk_wp C E.L G (fun z M κ => post z M ∧ κ ≤ C.most) f M pc al st κ →
      rk_A p l e R s m args below meth c (rk_QQ below args s E cl post C.most) E cl M pc al st κ
  | 0, M, pc, al, st, κ, hal, h => hG M pc al st κ hal h
  | f + 1, M, pc, al, st, κ, hal, h => by
    simp only [rk_wp] at h
    split at h
    · exact h.elim
    · rename_i i hi
      obtain ⟨i, n⟩ := i
      refine rk_step hx hb hTB hO hT hn hlocks hC (fun M pc al st κ hal h => ?_) hal hi h
      split at h
      · exact hG M pc al st κ hal h
      · exact rk_run hx hb hTB hO hT hn hlocks hC hG f M pc al st κ hal h
end RKZ
end
section
/-! A contract out of a walk -/
section RKY
theorem rk_slen {E : rk_E} : ∀ (as : List rk_V), (∀ a ∈ as, (rk_vl E a).category = 1) → (lg_sl (as.map (rk_vl E))).length = as.length
  | [], _ => rfl
  | a :: as, h => by
    have h1 := rk_slen as (fun b hb => h b (List.mem_cons_of_mem _ hb))
    have h2 := h a List.mem_cons_self
    simp only [lg_sl, List.map_cons, List.flatMap_cons, h2] at h1 ⊢
    simp only [List.length_append, List.length_cons, h1]
    simp; omega
theorem rk_args_in {E : rk_E} : ∀ (as : List rk_V) (i k : Nat) (v : rk_V), (∀ a ∈ as, (rk_vl E a).category = 1) → as[k]? = some v → (i + k, rk_vl E v) ∈ lv_args i (as.map (rk_vl E))
  | [], _, _, _, _, h => by simp at h
  | a :: as, i, 0, v, hc, h => by
    have hv : a = v := by simpa using h
    subst hv
    exact List.mem_cons_self
  | a :: as, i, k + 1, v, hc, h => by
    have h1 := hc a List.mem_cons_self
    have h2 := rk_args_in as (i + 1) k v (fun b hb => hc b (List.mem_cons_of_mem _ hb)) (by simpa using h)
    have e : i + 1 + k = i + (k + 1) := by omega
    rw [e] at h2
    simp only [List.map_cons, lv_args, h1]
    exact List.mem_cons_of_mem _ h2
theorem rk_entry {E : rk_E} {as : List rk_V} {nL : Nat} (m : MethodId) (hok : ∀ a ∈ as, rk_ok E a) (hc : ∀ a ∈ as, (rk_vl E a).category = 1) (hlen : as.length ≤ nL) : ∃ ls, entryFrame m ((as.map (rk_vl E)).toArray) nL = F0 m 0 ls [] ∧ rk_L E (as ++ List.replicate (nL - as.length) rk_u) ls := by
  have h1 := lv_entry (as.map (rk_vl E)) (n := nL) (by rw [rk_slen as hc]; exact hlen)
  refine ⟨_, lg_entry_eq m _ nL, ⟨?_, h1.2.1, fun q hq => ?_⟩, fun k v hk => ?_⟩
  · rw [h1.1]; simp; omega
  · obtain ⟨k, v, g1, g2, rfl⟩ := rk_en_of _ _ _ hq
    by_cases hk : k < as.length
    · rw [List.getElem?_append_left hk] at g1
      exact h1.2.2 _ (rk_args_in as 0 k v hc g1)
    · rw [List.getElem?_append_right (by omega)] at g1
      exact (g2 (List.eq_of_mem_replicate (List.mem_of_getElem? g1))).elim
  · by_cases hk' : k < as.length
    · rw [List.getElem?_append_left hk'] at hk
      exact ⟨hok v (List.mem_of_getElem? hk), hc v (List.mem_of_getElem? hk)⟩
    · rw [List.getElem?_append_right (by omega)] at hk
      rw [List.eq_of_mem_replicate (List.mem_of_getElem? hk)]
      exact ⟨trivial, rfl⟩
variable {l : Launch} {cl : List vw_C} {y : MethodName} {cc : ByteArray} {nL d : Nat} {ret : Option FieldType} {C : rk_C} {pre : List rk_V → rk_M → Prop} {post : List rk_V → rk_M → rk_Z → rk_M → Prop}
/-- the walk's closure: what a walk reaches, the machine reaches -/
def rk_Go (C : rk_C) (L nL : Nat) (G : rk_G) (po : rk_Z → rk_M → Prop) : Prop := ∀ (f : Nat) (M : rk_M) (pc : Nat) (al st : List rk_V) (κ : Nat), al.length = nL → rk_wp C L G (fun z M' κ => po z M' ∧ κ ≤ C.most) f M pc al st κ → G M pc al st κ
theorem rk_Sp_of (hy : plainName y.cls = true) (hnl : ∀ as M, pre as M → as.length ≤ nL ∧ ∀ (E : rk_E), ∀ a ∈ as, (rk_vl E a).category = 1)
    (hcx : ∀ p e s m args below meth c s₁ (E : rk_E), BodyLoose p l y (headSpec [.code y cc nL ret] (rk_rm d C.most)) cc nL ret e s m args below meth c s₁ → c.maxLocals = nL → rk_TB s → rk_O E → rk_T E cl s → rk_NN E s → ∀ as M, pre as M → rk_Cx p l e (rk_rm d C.most) s m args below meth c cc E cl C nL (post as M))
    (body : ∀ (L : Nat) (as : List rk_V) (M : rk_M) (G : rk_G), pre as M → (∀ t o r j, rk_rg (M t o r j)) → rk_Go C L nL G (post as M) → G M 0 (as ++ List.replicate (nL - as.length) rk_u) [] 0) : rk_Sp l cl y (.code y cc nL ret) d pre post C.most := by
  intro E as M hpre
  obtain ⟨hlen, hcat⟩ := hnl as M hpre
  refine MetFree.of_bodyS (code := cc) (maxLocals := nL) (ret := ret) hy ?_ ?_
  · intro args s m h hn
    obtain ⟨meth, c, h1, h2, h3, h4, h5, h6, -, -⟩ := Cond.code_spec hn (atoms_spec (ws := [.code y cc nL ret]) h _ List.mem_cons_self)
    exact ⟨meth, c, h1, h2, h3, h4, h5, h6⟩
  · intro p e s m args below meth c s₁ B hml hP _
    obtain ⟨rfl, hok, hTB, hO, hT, hH, hn⟩ := hP
    have hh0 : s₁.heap = s.heap := by rw [B.state]; rfl
    obtain ⟨ls, he, hL⟩ := rk_entry (nL := nL) m hok (hcat E) hlen
    have hC := hcx p e s m _ below meth c s₁ E B hml hTB hO hT hn as M hpre
    have hA := body E.L as M (rk_A p l e (rk_rm d C.most) s m ((as.map (rk_vl E)).toArray) below meth c (rk_QQ below ((as.map (rk_vl E)).toArray) s E cl (post as M) C.most) E cl) hpre hH.1
      (fun f M pc al st κ hal h => rk_run B.exec B.bytes hTB hO hT hn B.notSynchronized hC (fun _ _ _ _ _ _ h => h) f M pc al st κ hal h)
    have hW := hA s.heap [] ls hH va_S.rf hL (fun v hv => by cases hv)
    obtain ⟨t, a1, o, b1, b2, b3, b4, b5⟩ := hW s₁ hh0 (Stand.of_body B)
    exact ⟨t, o, by rw [he]; exact a1, b1, b2, b3, b4, b5⟩
end RKY
/-! Invoking -/
section RKI
variable {p : Program} {l : Launch} {e : Env} {R : Room} {s : State} {m : MethodId} {args : Array Value} {below : List Frame} {meth : Method} {c : Code} {own : String} {idx : Nat} {y : MethodName} {H : Heap} {rest : List Value}
theorem rk_IvV (hexec : p.tables.exec = Jvm.exec) {C : String} {bytes : ByteArray} {maxL : Nat} {ret : Option FieldType} (hown : s.vm.findClass own = some m.cls)
    (hlink : (Cond.methodLink own idx y).before args s = true ∨ ∃ host, (Cond.methodLinkNest own idx y host).before args s = true) (hinst : (Cond.instanceMethod y).before args s = true) (hsel : (Cond.selects C y y).before args s = true)
    (hcode : (Cond.code y bytes maxL ret).before args s = true) (hy : y.cls ≠ "java/lang/invoke/MethodHandle" ∧ y.cls ≠ "java/lang/invoke/VarHandle") {b : Addr} {cellB : Cell} (hcell : H[b]? = some cellB) (hobj : cellB.vm.isStatics = false) (hcls : s.vm.findClass C = some cellB.cls)
    {argsL : List Value} (hlen : ∀ sig, parseMethodDescriptor y.desc = some sig → argsL.length = sig.parameters.length) : rk_Iv p l e R s m args below meth c (.invokevirtual idx) y H (.ref b :: argsL) rest := by
  intro T locs cells slots hT X g hg hstack hdg
  obtain ⟨mk, methM, hnamed, hmethM, hstM, habM⟩ := Cond.instanceMethod_spec hinst
  obtain ⟨methM', cM, hmethM', -, -, -, -, -, -, hsigM⟩ := Cond.code_spec hnamed hcode
  cases hmethM.symm.trans hmethM'
  obtain ⟨c2, r2, m2, q1, q2, q3, q4, kP, hkP, hkPi⟩ := Cond.selects_spec hsel
  cases hcls.symm.trans q1
  cases (State.methodFound?_of_named hnamed hy).symm.trans q2
  cases hnamed.symm.trans q3
  have hselP : selectMethod e.platform s.vm cellB.cls mk = .method mk := by rw [Launch.admits_selectMethod X.admits]; exact q4
  have hstack' : g.stack = argsL.reverse ++ .ref b :: rest := by rw [hstack]; simp
  rcases hlink with hl | ⟨host, hl⟩
  · obtain ⟨vm₁, X₁, hstep₁⟩ := X.invokevirtual hexec hown hl hnamed hmethM hstM hkP hkPi hy (a := b) (cell := cellB) (by rw [hT]; exact hcell) (fun z h => by rw [h] at hobj; cases hobj) hselP hmethM habM hkP hkPi (g := g) hg (argsL := argsL) (rest := rest) (hlen _ hsigM) hstack' hdg
    exact ⟨mk, vm₁, hnamed, X₁, fun target h => hstep₁ _ fun acts => by rw [doInvoke_state]; exact h⟩
  · obtain ⟨vm₁, X₁, hstep₁⟩ := X.invokevirtualNest hexec hown hl hnamed hmethM hstM hkP hkPi hy (a := b) (cell := cellB) (by rw [hT]; exact hcell) (fun z h => by rw [h] at hobj; cases hobj) hselP hmethM habM hkP hkPi (g := g) hg (argsL := argsL) (rest := rest) (hlen _ hsigM) hstack' hdg
    exact ⟨mk, vm₁, hnamed, X₁, fun target h => hstep₁ _ fun acts => by rw [doInvoke_state]; exact h⟩
theorem rk_IvS (hexec : p.tables.exec = Jvm.exec) {w : Cond} (hw : ∀ mk, s.methodNamed? y = some mk → ∃ methM, s.vm.method? mk = some methM ∧ parseMethodDescriptor y.desc = some methM.sig) (hn : ∃ mk, s.methodNamed? y = some mk) (hown : s.vm.findClass own = some m.cls)
    (hlink : (Cond.methodLink own idx y).before args s = true ∨ ∃ host, (Cond.methodLinkNest own idx y host).before args s = true) (hstat : (Cond.static y).before args s = true) (hinit : (Cond.initialized y.cls).before args s = true)
    (hy : y.cls ≠ "java/lang/invoke/MethodHandle" ∧ y.cls ≠ "java/lang/invoke/VarHandle") {argsL : List Value} (hlen : ∀ sig, parseMethodDescriptor y.desc = some sig → argsL.length = sig.parameters.length) : rk_Iv p l e R s m args below meth c (.invokestatic idx) y H argsL rest := by
  intro T locs cells slots hT X g hg hstack hdg
  obtain ⟨mk, hnamed⟩ := hn
  obtain ⟨methM, hmethM, hsigM⟩ := hw mk hnamed
  have hstatic : methM.isStatic = true := Cond.static_spec hnamed hmethM hstat
  obtain ⟨kP, hkP, -⟩ := className_of_methodNamed hnamed
  have hinitP : kP.init = .initialized := Cond.initialized_spec (findClass_of_methodNamed hnamed) hkP hinit
  rcases hlink with hl | ⟨host, hl⟩
  · obtain ⟨vm₁, X₁, hstep₁⟩ := X.invokestatic hexec hown hl hnamed hmethM hstatic hkP hinitP hy (g := g) hg (argsL := argsL) (rest := rest) (hlen _ hsigM) hstack hdg
    exact ⟨mk, vm₁, hnamed, X₁, fun target h => hstep₁ _ fun acts => by rw [doInvoke_state]; exact h⟩
  · obtain ⟨vm₁, X₁, hstep₁⟩ := X.invokestaticNest hexec hown hl hnamed hmethM hstatic hkP hinitP hy (g := g) hg (argsL := argsL) (rest := rest) (hlen _ hsigM) hstack hdg
    exact ⟨mk, vm₁, hnamed, X₁, fun target h => hstep₁ _ fun acts => by rw [doInvoke_state]; exact h⟩
theorem rk_Rd_of {bytes : ByteArray} {maxL : Nat} {ret : Option FieldType} (hl : maxL ≤ 100) (hcode : (Cond.code y bytes maxL ret).before args s = true) (hinit : (Cond.initialized y.cls).before args s = true) : rk_Rd s y (.code y bytes maxL ret) := by
  intro U a mk hW hn
  have h1 : (Cond.code y bytes maxL ret).before a U = true := word_at hW (Or.inl rfl) hcode
  have h2 : (Cond.initialized y.cls).before a U = true := word_at hW (Or.inl (by first | rfl | simp [Cond.onTables, Cond.keeps, Cond.steady])) hinit
  obtain ⟨methY, cY, hmY, hcY, -, hlY, -, -, -, -⟩ := Cond.code_spec hn h1
  obtain ⟨kY, hkY, -⟩ := className_of_methodNamed hn
  exact ⟨h1, methY, cY, kY, hmY, hcY, by rw [hlY]; exact hl, hkY, Cond.initialized_spec (findClass_of_methodNamed hn) hkY h2⟩
end RKI
end
section
/-! Tables of a method: its code, its fields, its callees -/
def rk_lk {α : Type} (i : Nat) : List (Nat × α) → Option α
  | [] => none
  | q :: r => match Nat.beq i q.1 with
    | true => some q.2
    | false => rk_lk i r
theorem rk_lk_in {α : Type} {i : Nat} {a : α} : ∀ {l : List (Nat × α)}, rk_lk i l = some a → (i, a) ∈ l
  | [], h => by cases h
  | q :: r, h => by
    unfold rk_lk at h
    split at h
    · rename_i hb
      have h1 : i = q.1 := Nat.eq_of_beq_eq_true hb
      have h2 : q.2 = a := Option.some.inj h
      rw [h1, ← h2]; exact List.mem_cons_self
    · exact List.mem_cons_of_mem _ (rk_lk_in h)
def rk_chk (cc : ByteArray) (l : List (Nat × Jvm.ClassFile.Instr × Nat)) : Bool := l.all fun q => decide (decode cc q.1 = .ok q.2) && (rk_im q.1 q.2.1 && (Nat.beq (rk_ln q.2.1) q.2.2 || Nat.beq (rk_ln q.2.1) 0))
theorem rk_chk_ok {cc : ByteArray} {l : List (Nat × Jvm.ClassFile.Instr × Nat)} (h : rk_chk cc l = true) (pc : Nat) (i : Jvm.ClassFile.Instr) (n : Nat) (hk : rk_lk pc l = some (i, n)) : decode cc pc = .ok (i, n) ∧ rk_im pc i = true ∧ (rk_ln i = n ∨ rk_ln i = 0) := by
  have h1 := List.all_eq_true.mp h _ (rk_lk_in hk)
  simp only [Bool.and_eq_true, Bool.or_eq_true, decide_eq_true_eq] at h1
  exact ⟨h1.1, h1.2.1, h1.2.2.imp Nat.eq_of_beq_eq_true Nat.eq_of_beq_eq_true⟩
def rk_Tri : u_T := fun k => [("OrdinalRink", "segments", "[LOrdinalRink$Segment;", true), ("OrdinalRink", "page", "Ljava/lang/StringBuilder;", true), ("OrdinalRink", "text", "Ljava/lang/StringBuilder;", true), ("OrdinalRink", "reader", "LOrdinalRink$ProofReader;", true), ("OrdinalRink", "skaters", "I", false), ("OrdinalRink", "judges", "I", false)].getD k ("", "", "", false)
def rk_Tpr : u_T := fun k => [("OrdinalRink$ProofReader", "numbers", "[I", true)].getD k ("", "", "", false)
def rk_Tse : u_T := fun k => [("OrdinalRink$Segment", "kind", "I", false), ("OrdinalRink$Segment", "factor", "I", false), ("OrdinalRink$Segment", "published", "Z", false), ("OrdinalRink$Segment", "skaters", "I", false), ("OrdinalRink$Segment", "judges", "I", false), ("OrdinalRink$Segment", "starting", "[Z", true), ("OrdinalRink$Segment", "struck", "[Z", true), ("OrdinalRink$Segment", "firsts", "[[I", true), ("OrdinalRink$Segment", "seconds", "[[I", true), ("OrdinalRink$Segment", "deductions", "[[I", true), ("OrdinalRink$Segment", "worths", "[I", true), ("OrdinalRink$Segment", "ordinals", "[[I", true), ("OrdinalRink$Segment", "figures", "[[I", true)].getD k ("", "", "", false)
def rk_Tmo : u_T := fun k => [("OrdinalRinkModel", "fault", "I", false), ("OrdinalRinkModel", "skaters", "I", false), ("OrdinalRinkModel", "judges", "I", false), ("OrdinalRinkModel", "has", "[Z", true), ("OrdinalRinkModel", "firsts", "[I", true), ("OrdinalRinkModel", "seconds", "[I", true), ("OrdinalRinkModel", "taken", "[I", true), ("OrdinalRinkModel", "struck", "[Z", true), ("OrdinalRinkModel", "kinds", "[I", true), ("OrdinalRinkModel", "factors", "[I", true), ("OrdinalRinkModel", "published", "[Z", true), ("OrdinalRinkModel", "gone", "[I", true), ("OrdinalRinkModel", "ordinals", "[I", true), ("OrdinalRinkModel", "results", "[I", true), ("OrdinalRinkModel", "typed", "I", false), ("OrdinalRinkModel", "text", "[I", true), ("OrdinalRinkModel", "numbers", "[I", true), ("OrdinalRinkModel", "written", "I", false), ("OrdinalRinkModel", "page", "[I", true)].getD k ("", "", "", false)
def rk_Tsb : u_T := fun k => [("java/lang/AbstractStringBuilder", "value", "[B", false), ("java/lang/AbstractStringBuilder", "coder", "B", false), ("java/lang/AbstractStringBuilder", "maybeLatin1", "Z", false), ("java/lang/AbstractStringBuilder", "count", "I", false)].getD k ("", "", "", false)
def rk_cs : List vw_C := [("OrdinalRink", rk_Tri, 6), ("OrdinalRink$ProofReader", rk_Tpr, 1), ("OrdinalRink$Segment", rk_Tse, 13), ("OrdinalRinkModel", rk_Tmo, 19), ("java/lang/StringBuilder", rk_Tsb, 4)]
theorem rk_uws : rk_cs.all (fun q => (u_ws q.1 q.2.1 q.2.2).all (fun w => decide (w ∈ lw_tbl) && goodWord w)) = true := by decide +kernel
def rk_ftc (own : String) (ft : List (Nat × Nat × Nat × Int)) : Bool := ft.all fun f => match rk_cs[f.2.1]? with
  | none => false
  | some q => decide (f.2.2.2 = (f.2.2.1 : Int)) && (decide (f.2.2.1 < q.2.2) && (decide (Cond.fieldLink own f.1 (q.2.1 f.2.2.1).1 (q.2.1 f.2.2.1).2.1 (q.2.1 f.2.2.1).2.2.1 ∈ lw_tbl) || decide (Cond.fieldLinkNest own f.1 (q.2.1 f.2.2.1).1 (q.2.1 f.2.2.1).2.1 (q.2.1 f.2.2.1).2.2.1 "OrdinalRink" ∈ lw_tbl)))
theorem rk_FL_of {own : String} {ft : List (Nat × Nat × Nat × Int)} {s : State} {m : MethodId} {args : Array Value} (hft : rk_ftc own ft = true) (hTB : rk_TB s) (hown : s.vm.findClass own = some m.cls) (idx ci k : Nat) (z : Int) (h : rk_lk idx ft = some (ci, k, z)) : rk_FL s m args rk_cs idx ci k z := by
  have h1 := List.all_eq_true.mp hft _ (rk_lk_in h)
  dsimp only at h1
  split at h1
  · cases h1
  · rename_i q hq
    simp only [Bool.and_eq_true, Bool.or_eq_true, decide_eq_true_eq] at h1
    obtain ⟨hz, h1⟩ := h1
    have h2 := List.all_eq_true.mp rk_uws q (List.mem_of_getElem? hq)
    refine ⟨hz, q.1, q.2.1, q.2.2, own, hq, h1.1, fun w hw => ?_, hown, ?_⟩
    · have h3 := List.all_eq_true.mp h2 w hw
      simp only [Bool.and_eq_true, decide_eq_true_eq] at h3
      exact hTB w h3.1 (Or.inl h3.2) args
    · rcases h1.2 with h4 | h4
      · exact Or.inl (hTB _ h4 (Or.inl rfl) args)
      · exact Or.inr ⟨_, hTB _ h4 (Or.inr (Or.inl rfl)) args⟩
/-- a field that the walk may write is not final, and is an int or a truth value as its place says -/
theorem rk_fin {L t ci k f : Nat} {fs : List Nat} {on rn : Int} {q : vw_C} (hq : rk_cs[ci]? = some q) (hk : rk_kd L t = (1, ci, fs, on, rn)) (hf : fs[k]? = some f) (h1 : f ≤ 1) : (q.2.1 k).2.2.2 = false ∧ (f = 0 → parseFieldDescriptor (q.2.1 k).2.2.1 = some .int) ∧ (f = 1 → parseFieldDescriptor (q.2.1 k).2.2.1 = some .boolean) := by
  have key : rk_k0.all (fun e => if e.1 = 1 then (match rk_cs[e.2.1]? with
      | none => false
      | some q => (List.range e.2.2.1.length).all fun k => if e.2.2.1.getD k 9 ≤ 1 then (q.2.1 k).2.2.2 == false && (if e.2.2.1.getD k 9 = 0 then decide (parseFieldDescriptor (q.2.1 k).2.2.1 = some .int) else decide (parseFieldDescriptor (q.2.1 k).2.2.1 = some .boolean)) else true) else true) = true := by decide +kernel
  have hmem : (1, ci, fs, on, rn) ∈ rk_k0 := by
    unfold rk_kd at hk
    rw [List.getD_eq_getElem?_getD] at hk
    cases hz : (rk_kl L)[t]? with
    | none => rw [hz] at hk; cases hk
    | some z =>
      rw [hz] at hk
      have hz2 : z = (1, ci, fs, on, rn) := hk
      subst hz2
      rcases List.mem_append.mp (List.mem_of_getElem? hz) with h | h
      · exact h
      · have := List.mem_singleton.mp h
        cases this
  have h2 := List.all_eq_true.mp key _ hmem
  dsimp only at h2
  rw [if_pos rfl, hq] at h2
  have hlt : k < fs.length := (List.getElem?_eq_some_iff.mp hf).1
  have h3 := List.all_eq_true.mp h2 k (List.mem_range.mpr hlt)
  have hg : fs.getD k 9 = f := by rw [List.getD_eq_getElem?_getD, hf]; rfl
  rw [hg, if_pos h1] at h3
  simp only [Bool.and_eq_true, beq_iff_eq] at h3
  refine ⟨h3.1, fun h0 => ?_, fun h0 => ?_⟩
  · have h4 := h3.2
    rw [if_pos h0] at h4
    exact of_decide_eq_true h4
  · have h4 := h3.2
    rw [if_neg (by omega)] at h4
    exact of_decide_eq_true h4
end
section
/-! A method's contract out of its tables and its walk -/
def rk_rcv (C : String) (t : Nat) : Prop := t ≠ 0 ∧ ∀ L, (∃ ci fs on rn q, rk_kd L t = (1, ci, fs, on, rn) ∧ rk_cs[ci]? = some q ∧ q.1 = C) ∨ ((rk_kd L t).1 = 6 ∧ C = "java/lang/StringBuilder")
/-- what a call stands on: the callee's contract, and the tables' words -/
def rk_CK (l : Launch) (own : String) (d key : Nat) (F : rk_F) : Prop := ∃ (y : MethodName) (bytes : ByteArray) (maxL : Nat) (ret : Option FieldType) (d' n : Nat), d' < d ∧ maxL ≤ 100 ∧ rk_Sp l rk_cs y (.code y bytes maxL ret) d' F.2.1 F.2.2.1 F.2.2.2 ∧ Cond.code y bytes maxL ret ∈ lw_tbl ∧ Cond.initialized y.cls ∈ lw_tbl ∧
  (y.cls ≠ "java/lang/invoke/MethodHandle" ∧ y.cls ≠ "java/lang/invoke/VarHandle") ∧ (parseMethodDescriptor y.desc).map (fun d => d.parameters.length) = some n ∧
  ((∃ (idx : Nat) (C : String), key = 2 * idx ∧ F.1 = n + 1 ∧ (Cond.methodLink own idx y ∈ lw_tbl ∨ Cond.methodLinkNest own idx y "OrdinalRink" ∈ lw_tbl) ∧ Cond.instanceMethod y ∈ lw_tbl ∧ Cond.selects C y y ∈ lw_tbl ∧ ∀ as M, F.2.1 as M → ∃ t o r as', as = rk_r t o r :: as' ∧ rk_rcv C t) ∨
    (∃ idx : Nat, key = 2 * idx + 1 ∧ F.1 = n ∧ (Cond.methodLink own idx y ∈ lw_tbl ∨ Cond.methodLinkNest own idx y "OrdinalRink" ∈ lw_tbl) ∧ Cond.static y ∈ lw_tbl))
section RKK
variable {p : Program} {l : Launch} {e : Env} {s : State} {m : MethodId} {args : Array Value} {below : List Frame} {meth : Method} {c : Code} {Q : State → Prop} {cc : ByteArray} {E : rk_E} {own : String} {nL d most : Nat}
theorem rk_CK.run {key : Nat} {F : rk_F} (h : rk_CK l own d key F) (hx : p.tables.exec = Jvm.exec) (hb : c.code = cc) (hTB : rk_TB s) (hO : rk_O E) (hT : rk_T E rk_cs s) (hn : rk_NN E s) (hown : s.vm.findClass own = some m.cls) (hml : c.maxLocals = nL) {pc : Nat} {i : Jvm.ClassFile.Instr} (hd : decode cc pc = .ok (i, 3))
    (hii : (∃ j, i = .invokevirtual j ∧ key = 2 * j) ∨ ∃ j, i = .invokestatic j ∧ key = 2 * j + 1) (M : rk_M) (al as rest : List rk_V) (κ : Nat) (hal : al.length = nL) (has : as.length = F.1) (hrl : rest.length ≤ 4) (hpre : F.2.1 as M) (hκ : κ + F.2.2.2 ≤ most)
    (kk : ∀ z M', F.2.2.1 as M z M' → rk_KA p l e (rk_rm d most) s m args below meth c Q E rk_cs pc al rest (κ + F.2.2.2) z M') : rk_A p l e (rk_rm d most) s m args below meth c Q E rk_cs M pc al (as.reverse ++ rest) κ := by
  obtain ⟨y, bytes, maxL, ret, d', n, hdd, hmL, hSp, hcw, hiw, hy, hpn, hcase⟩ := h
  have hcode := hTB _ hcw (Or.inl rfl) args
  have hini := hTB _ hiw (Or.inl rfl) args
  have hsig : ∀ {k : Nat}, k = n → ∀ sig, parseMethodDescriptor y.desc = some sig → k = sig.parameters.length := fun hk sig hs => by
    rw [hs] at hpn
    exact hk.trans (Option.some.inj hpn).symm
  have hlinkOf : ∀ {idx : Nat}, (Cond.methodLink own idx y ∈ lw_tbl ∨ Cond.methodLinkNest own idx y "OrdinalRink" ∈ lw_tbl) → (Cond.methodLink own idx y).before args s = true ∨ ∃ host, (Cond.methodLinkNest own idx y host).before args s = true := fun h => by
    rcases h with h | h
    · exact Or.inl (hTB _ h (Or.inl rfl) args)
    · exact Or.inr ⟨_, hTB _ h (Or.inr (Or.inl rfl)) args⟩
  refine rk_s_call hb hTB hO hT hn hSp (as := as) (ig := i) (fun H hH hoka => ?_) (rk_Rd_of hmL hcode hini) (show 8 * d' + 9 ≤ 8 * d + 8 by omega) (show 150 * d' + 269 ≤ 150 * d + 150 by omega) hκ (show 200 * (κ + F.2.2.2) ≤ 200 * most from Nat.mul_le_mul_left 200 hκ) hd (hal.trans hml.symm) hpre hrl rfl kk
  rcases hcase with ⟨idx, C, rfl, hF, hlk, hinst, hsel, hrc⟩ | ⟨idx, rfl, hF, hlk, hstat⟩
  · obtain ⟨j, rfl, hj⟩ : ∃ j, i = .invokevirtual j ∧ 2 * idx = 2 * j := by
      rcases hii with h | ⟨j, -, hj⟩
      · exact h
      · omega
    obtain rfl : idx = j := by omega
    obtain ⟨t, o, r, as', rfl, ht0, hrcv⟩ := hrc as M hpre
    have hv : rk_vh E t o r := (hoka _ List.mem_cons_self).resolve_left ht0
    obtain ⟨-, B, -, hat⟩ := hH
    have h1 := hat t o r hv
    have hcell : ∃ cell : Cell, H[E.ad t o r]? = some cell ∧ cell.vm.isStatics = false ∧ s.vm.findClass C = some cell.cls := by
      rcases hrcv E.L with ⟨ci, fs, on, rn, q, hk, hq, rfl⟩ | ⟨h6, rfl⟩
      · rw [hk] at h1
        obtain ⟨q', hq', -, cell, q1, q2, q3, -⟩ := h1
        cases hq.symm.trans hq'
        exact ⟨cell, q1, by rw [q3]; rfl, by rw [q2]; exact (hT.1 ci q hq).1.2.1⟩
      · rcases hk : rk_kd E.L t with ⟨k, a1, a2, a3, a4⟩
        rw [hk] at h1 h6
        have h6' : k = 6 := h6
        subst h6'
        obtain ⟨rfl, rfl, q, cell, A, hq, ⟨q1, -⟩, ⟨q2, q3, -⟩, -⟩ := h1
        have hq2 : rk_cs[4]? = some ("java/lang/StringBuilder", rk_Tsb, 4) := rfl
        cases hq2.symm.trans hq
        exact ⟨cell, q1, by rw [q3]; rfl, by rw [q2]; exact (hT.1 4 _ hq2).1.2.1⟩
    obtain ⟨cell, hc1, hc2, hc3⟩ := hcell
    rw [List.map_cons, rk_vl_r ht0]
    exact rk_IvV hx hown (hlinkOf hlk) (hTB _ hinst (Or.inl rfl) args) (hTB _ hsel (Or.inl rfl) args) hcode hy hc1 hc2 hc3 (fun sig hs => by rw [List.length_map]; exact hsig (by simp at has; omega) sig hs)
  · obtain ⟨j, rfl, hj⟩ : ∃ j, i = .invokestatic j ∧ 2 * idx + 1 = 2 * j + 1 := by
      rcases hii with ⟨j, -, hj⟩ | h
      · omega
      · exact h
    obtain rfl : idx = j := by omega
    obtain ⟨mk, hnamed⟩ := Cond.code_named hcode
    refine rk_IvS (w := .tt) hx (fun mk hmk => ?_) ⟨mk, hnamed⟩ hown (hlinkOf hlk) (hTB _ hstat (Or.inl rfl) args) hini hy (fun sig hs => by rw [List.length_map]; exact hsig (by omega) sig hs)
    obtain ⟨methM, cM, hmethM, -, -, -, -, -, -, hsigM⟩ := Cond.code_spec hmk hcode
    exact ⟨methM, hmethM, hsigM⟩
end RKK
/-- what a place that throws stands on -/
def rk_TK (l : Launch) (own : String) (d : Nat) (cc : ByteArray) (pc x : Nat) : Prop := ∀ (p : Program) (e : Env) (s : State) (m : MethodId) (args : Array Value) (below : List Frame) (meth : Method) (c : Code) (E : rk_E) (nL most : Nat) (post : rk_Z → rk_M → Prop), p.tables.exec = Jvm.exec → c.code = cc → rk_TB s → rk_O E → rk_T E rk_cs s → rk_NN E s → s.vm.findClass own = some m.cls → c.maxLocals = nL → meth.locks = false → (∀ z ∈ c.exceptionTable.toList, covers z pc = false) → (∀ z ∈ c.exceptionTable.toList, covers z (pc + 9) = false) → l.admits e →
  ∀ (M : rk_M) (al : List rk_V) (κ : Nat), al.length = nL → κ + 1 ≤ most → post (.inr x) M → rk_A p l e (rk_rm d most) s m args below meth c (rk_QQ below args s E rk_cs post most) E rk_cs M pc al [] κ
def rk_rtk (r : Nat) (ret : Option FieldType) : Prop := (r = 0 ∧ ret = none) ∨ (r = 1 ∧ ret = some .int) ∨ (r = 2 ∧ ret = some .boolean) ∨ (r = 3 ∧ ret = some .char) ∨ (r = 4 ∧ ∃ n, ret = some (.object n))
abbrev rk_ctx (kc : List (Nat × Jvm.ClassFile.Instr × Nat)) (ft : List (Nat × Nat × Nat × Int)) (ca : List (Nat × rk_F)) (th : List (Nat × Nat)) (stops : List Nat) (rt most : Nat) : rk_C := (fun pc => rk_lk pc kc, fun i => rk_lk i ft, fun i => rk_lk i ca, fun i => rk_lk i th, fun _ _ => none, stops, rt, most)
theorem rk_mk {l : Launch} {y : MethodName} {cc : ByteArray} {nL d : Nat} {ret : Option FieldType} {kc : List (Nat × Jvm.ClassFile.Instr × Nat)} {ft : List (Nat × Nat × Nat × Int)} {ca : List (Nat × rk_F)} {th : List (Nat × Nat)} {stops : List Nat} {rt most : Nat} {pre : List rk_V → rk_M → Prop} {post : List rk_V → rk_M → rk_Z → rk_M → Prop}
    (hck : rk_chk cc kc = true) (hft : rk_ftc y.cls ft = true) (hca : ∀ q ∈ ca, rk_CK l y.cls d q.1 q.2) (hth : ∀ q ∈ th, rk_TK l y.cls d cc q.1 q.2) (hrt : rk_rtk rt ret) (hy : plainName y.cls = true) (hnl : ∀ as M, pre as M → as.length ≤ nL ∧ ∀ (E : rk_E), ∀ a ∈ as, (rk_vl E a).category = 1)
    (body : ∀ (L : Nat) (as : List rk_V) (M : rk_M) (G : rk_G), pre as M → (∀ t o r j, rk_rg (M t o r j)) → rk_Go (rk_ctx kc ft ca th stops rt most) L nL G (post as M) → G M 0 (as ++ List.replicate (nL - as.length) rk_u) [] 0) : rk_Sp l rk_cs y (.code y cc nL ret) d pre post most := by
  refine rk_Sp_of (C := rk_ctx kc ft ca th stops rt most) hy hnl (fun p e s m args below meth c s₁ E B hml hTB hO hT hn as M hpre => ?_) body
  have hown : s.vm.findClass y.cls = some m.cls := findClass_of_methodNamed B.named
  have hcodeV := atoms_spec (ws := [.code y cc nL ret]) B.pre _ List.mem_cons_self
  have hnoh : ∀ pc : Nat, ∀ z ∈ c.exceptionTable.toList, covers z pc = false := fun pc => covers_of_empty (B.noHandlers hcodeV) pc
  refine ⟨rk_chk_ok hck, rk_FL_of hft hTB hown, fun idx ci k z q f fs on rn t _ hq hk hf h1 _ => rk_fin hq hk hf h1, fun pc key i F hF hi hii M al as rest κ hal has hrl hp hκ kk => ?_, fun pc x hx' M al κ hal hκ hp => ?_, fun pc x => ⟨fun _ _ => hnoh pc, fun h hh => by cases hh⟩, ?_⟩
  · exact rk_CK.run (hca _ (rk_lk_in hF)) B.exec B.bytes hTB hO hT hn hown hml (rk_chk_ok hck pc i 3 hi).1 hii M al as rest κ hal has hrl hp hκ kk
  · exact hth _ (rk_lk_in hx') p e s m args below meth c E nL most _ B.exec B.bytes hTB hO hT hn hown hml B.notSynchronized (hnoh _) (hnoh _) B.admits M al κ hal hκ hp
  · rw [B.returns]; exact hrt
end
section
/-! Throwing -/
theorem rk_laysS {C f d : String} {a a' : Array Value} {u U : State} (hv : U.vm = u.vm) (hh : ∀ q, q < u.heap.size → U.heap[q]? = u.heap[q]?) (h : (Cond.laysStatic C f d).before a u = true) : (Cond.laysStatic C f d).before a' U = true := by
  have e : U.fieldFound? C f d = u.fieldFound? C f d := by simp only [State.fieldFound?, hv]
  simp only [Cond.before, Cond.holds, Cond.value, e, hv] at h ⊢
  cases h1 : u.vm.findClass C with
  | none => simp [h1] at h
  | some c =>
    cases h2 : u.fieldFound? C f d with
    | none => simp [h1, h2] at h
    | some x =>
      obtain ⟨c', k, i, fd⟩ := x
      simp only [h1, h2] at h ⊢
      cases h3 : k.statics with
      | none => simp [h3] at h
      | some q =>
        simp only [h3, Option.bind_some] at h ⊢
        cases h4 : u.heap[q]? with
        | none => simp [h4] at h
        | some cell => rw [hh q (Array.getElem?_eq_some_iff.mp h4).1]; exact h
theorem rk_statS {C f d : String} {a a' : Array Value} {u U : State} (hv : U.vm = u.vm) (hh : ∀ q, q < u.heap.size → U.heap[q]? = u.heap[q]?) (h : (Cond.isRef (.static C f d)).before a u = true) : (Cond.isRef (.static C f d)).before a' U = true := by
  have e : U.fieldNamed? C f d true = u.fieldNamed? C f d true := by simp only [State.fieldNamed?, State.fieldFound?, hv]
  have e2 : (Term.static C f d).eval a' U none [] U = (Term.static C f d).eval a u none [] u := by
    have h0 : ∃ v, (Term.static C f d).eval a u none [] u = some v := by
      cases hx : (Term.static C f d).eval a u none [] u with
      | none => simp [Cond.before, Cond.holds, Cond.value, hx] at h
      | some v => exact ⟨v, rfl⟩
    obtain ⟨v, h0⟩ := h0
    cases h1 : u.fieldNamed? C f d true with
    | none => simp [Term.eval, h1] at h0
    | some x =>
      obtain ⟨c', k, i⟩ := x
      cases h3 : k.statics with
      | none => simp [Term.eval, h1, h3] at h0
      | some q =>
        cases h4 : u.heap[q]? with
        | none => simp [Term.eval, h1, h3, h4] at h0
        | some cell => simp [Term.eval, e, h1, h3, hh q (Array.getElem?_eq_some_iff.mp h4).1, h4]
  simp only [Cond.before, Cond.holds, Cond.value, e2] at h ⊢
  exact h
/-- the words that a throw of X by own stands on, but those of statics, are among the tables'; by their checks -/
def rk_hw : Cond → Bool
  | .laysStatic _ _ _ => true
  | .isRef _ => true
  | _ => false
def rk_thw (own : String) (ic : Nat) (X : String) : List Cond := (Bundle.ownAtoms own ic X ["java/lang/RuntimeException", "java/lang/Exception"]).filter (fun w => !rk_hw w)
theorem rk_own_ok {E : rk_E} {s : State} {own X : String} {ic : Nat} {args : Array Value} (hTB : rk_TB s) (hn : rk_NN E s) (hck : (rk_thw own ic X).all (fun w => decide (w ∈ lw_tbl) && (w.onTables && w.keepsFace)) = true) : ∀ w ∈ Bundle.ownAtoms own ic X ["java/lang/RuntimeException", "java/lang/Exception"], w.before args s = true := by
  obtain ⟨a0, hg, hl0⟩ := hn.2.2.2.2.2
  have hfl := flat_of_before _ hg
  have hold : ∀ q, q < (E.s0.setVm s.vm).heap.size → s.heap[q]? = (E.s0.setVm s.vm).heap[q]? := fun q hq => hn.2.2.2.1 q (by rw [hn.2.2.1]; exact hq)
  have hW := hn.2.2.2.2.1
  intro w hw
  by_cases hf : rk_hw w = true
  · have hmem : w ∈ [Cond.laysStatic "java/lang/Throwable" "UNASSIGNED_STACK" "[Ljava/lang/StackTraceElement;", Cond.laysStatic "java/lang/Throwable" "SUPPRESSED_SENTINEL" "Ljava/util/List;", Cond.isRef (.static "java/lang/Throwable" "UNASSIGNED_STACK" "[Ljava/lang/StackTraceElement;"), Cond.isRef (.static "java/lang/Throwable" "SUPPRESSED_SENTINEL" "Ljava/util/List;")] := by
      have h2 : w ∈ (Bundle.ownAtoms own ic X ["java/lang/RuntimeException", "java/lang/Exception"]).filter rk_hw := List.mem_filter.mpr ⟨hw, hf⟩
      have h3 : (Bundle.ownAtoms own ic X ["java/lang/RuntimeException", "java/lang/Exception"]).filter rk_hw = [Cond.laysStatic "java/lang/Throwable" "UNASSIGNED_STACK" "[Ljava/lang/StackTraceElement;", Cond.laysStatic "java/lang/Throwable" "SUPPRESSED_SENTINEL" "Ljava/util/List;", Cond.isRef (.static "java/lang/Throwable" "UNASSIGNED_STACK" "[Ljava/lang/StackTraceElement;"), Cond.isRef (.static "java/lang/Throwable" "SUPPRESSED_SENTINEL" "Ljava/util/List;")] := rfl
      rw [h3] at h2; exact h2
    simp only [List.mem_cons, List.not_mem_nil, or_false] at hmem
    rcases hmem with rfl | rfl | rfl | rfl
    · exact rk_laysS (u := E.s0.setVm s.vm) rfl hold (Cond.before_shiftedFace (State.Shifted.of_warmed hW) _ rfl (hl0 (Cond.laysStatic "java/lang/Throwable" "UNASSIGNED_STACK" "[Ljava/lang/StackTraceElement;") (by decide +kernel)))
    · exact rk_laysS (u := E.s0.setVm s.vm) rfl hold (Cond.before_shiftedFace (State.Shifted.of_warmed hW) _ rfl (hl0 (Cond.laysStatic "java/lang/Throwable" "SUPPRESSED_SENTINEL" "Ljava/util/List;") (by decide +kernel)))
    · exact rk_statS (u := E.s0.setVm s.vm) rfl hold (Cond.before_shiftedFace (State.Shifted.of_warmed hW) _ rfl (hfl (Cond.isRef (.static "java/lang/Throwable" "UNASSIGNED_STACK" "[Ljava/lang/StackTraceElement;")) (by decide +kernel)))
    · exact rk_statS (u := E.s0.setVm s.vm) rfl hold (Cond.before_shiftedFace (State.Shifted.of_warmed hW) _ rfl (hfl (Cond.isRef (.static "java/lang/Throwable" "SUPPRESSED_SENTINEL" "Ljava/util/List;")) (by decide +kernel)))
  · have h1 := List.all_eq_true.mp hck w (List.mem_filter.mpr ⟨hw, by simpa using hf⟩)
    simp only [Bool.and_eq_true, decide_eq_true_eq] at h1
    exact hTB w h1.1 (Or.inr (Or.inr (Or.inr (by simp [h1.2])))) args
theorem rk_thw_0 : (rk_thw "OrdinalRink" 81 "java/lang/IndexOutOfBoundsException").all (fun w => decide (w ∈ lw_tbl) && (w.onTables && w.keepsFace)) = true := by decide +kernel
theorem rk_thw_1 : (rk_thw "OrdinalRink" 41 "java/lang/IllegalArgumentException").all (fun w => decide (w ∈ lw_tbl) && (w.onTables && w.keepsFace)) = true := by decide +kernel
theorem rk_thw_2 : (rk_thw "OrdinalRink" 98 "java/lang/IllegalStateException").all (fun w => decide (w ∈ lw_tbl) && (w.onTables && w.keepsFace)) = true := by decide +kernel

section RKT
variable {p : Program} {l : Launch} {e : Env} {R : Room} {s : State} {m : MethodId} {args : Array Value} {below : List Frame} {meth : Method} {c : Code} {T : State} {locs : List Loc} {cells slots : Nat}
/-- the walk, as if the method had been invoked in the state that it has come to -/
theorem rk_rebase (X : Stand p l e R s m args below meth c T locs cells slots) {k n : Nat} (hc : cells + k ≤ R.cells) (hs : slots + n ≤ R.slots) : Stand p l e { R with cells := k, slots := n } (T.setFrames (.invoking m args :: below)) m args below meth c T [] 0 0 := by
  obtain ⟨g₀, hfr⟩ := X.frames_eq
  have hcur := State.cur_lt_of_frames hfr
  have hF : (T.setFrames (.invoking m args :: below)).frames = .invoking m args :: below := State.frames_setFrames _ hcur
  have hm : (T.setFrames (.invoking m args :: below)).vm.method? m = some meth := X.method'
  refine ⟨X.admits, X.cas, X.clock, hF, ?_, ?_, hm, X.code, X.here, X.tail, State.WarmedH.refl _, by rw [State.stackLimits_setFrames], by rw [State.stackBytes_setFrames], ?_⟩
  · have h := X.room
    have hu : (T.setFrames (.invoking m args :: below)).localsInUse = s.localsInUse := by rw [State.localsInUse_invoking hF hm X.code, State.localsInUse_invoking X.frames X.method X.code]
    have h1 := X.heapSize
    have h2 := X.used
    simp only [State.hasRoom, Bool.and_eq_true, decide_eq_true_eq, hF, hu, X.frames, State.stackLimits_setFrames, State.stackBytes_setFrames, X.limits, X.bytes] at h ⊢
    obtain ⟨⟨⟨⟨a1, a2⟩, a3⟩, a4⟩, a5⟩ := h
    exact ⟨⟨⟨⟨a1, a2⟩, by show T.heap.size + k ≤ _; omega⟩, by show T.slotsUsed + n ≤ _; omega⟩, X.book⟩
  · have h := X.hears
    have e1 : ∀ mm, (T.setFrames (.invoking m args :: below)).code? mm = s.code? mm := fun mm => by
      rw [State.code?_eq, State.code?_eq]
      show (T.vm.method? mm).bind _ = _
      rw [X.warmed.alike.method?]
    have e2 : (T.setFrames (.invoking m args :: below)).vm.method? m = s.vm.method? m := X.warmed.alike.method? _
    have e3 : (T.setFrames (.invoking m args :: below)).hears m below = s.hears m below := by
      unfold State.hears
      split <;> simp only [e1, e2]
    rw [e3]; exact h
  · obtain ⟨t, ht, -⟩ := State.frames_cons hF
    have h := (State.sameButNew.refl (T.setFrames (.invoking m args :: below)) ht).setFrames T.frames (State.cur_lt_of_frames hF)
    rw [State.setFrames_setFrames] at h
    obtain ⟨t', ht', -⟩ := State.frames_cons hfr
    rw [State.setFrames_self ht'] at h
    exact h
/-- nothing old changes where no slot is named -/
theorem rk_same0 {u U : State} {k n : Nat} (h : u.sameButNew U [] k n) {q : Nat} (hq : q < u.heap.size) : U.heap[q]? = u.heap[q]? := by
  cases hc : u.heap[q]? with
  | none => exact absurd (Array.getElem?_eq_none_iff.mp hc) (Nat.not_le.mpr hq)
  | some cl =>
    obtain ⟨c', h1, h2, h3, h4⟩ := h.2.2.2.2.2 q cl hc
    rw [h1, h2]
    have h5 : c'.slots = cl.slots := by
      apply Array.ext_getElem?
      intro i
      exact h4 i (by simp)
    rw [h5]
theorem rk_at.grow {E : rk_E} {cl : List vw_C} {s : State} {B : Nat → Nat} {M : rk_M} {H H' : Heap} {t : Nat} {o r : Int} {e : rk_N} (h : rk_at E cl s B M H t o r e) (hg : ∀ q, q < H.size → H'[q]? = H[q]?) : rk_at E cl s B M H' t o r e := by
  have key : ∀ {q : Nat} {x : Cell}, H[q]? = some x → H'[q]? = H[q]? := fun hq => hg _ (Array.getElem?_eq_some_iff.mp hq).1
  unfold rk_at at h ⊢
  split at h
  · obtain ⟨q, h1, h2, h3⟩ := h
    exact ⟨q, h1, h2, h3.kept (key h3.choose_spec.1)⟩
  · rw [key h]; exact h
  · rw [key h]; exact h
  · rw [key h]; exact h
  · rw [key h]; exact h
  · rw [key h]; exact h
  · obtain ⟨rfl, rfl, q, bC, A, h1, h2, h3⟩ := h
    exact ⟨rfl, rfl, q, bC, A, h1, ⟨by rw [key h2.1]; exact h2.1, by rw [key h2.2]; exact h2.2⟩, h3⟩
  · exact h.kept (key h.choose_spec.1)
  · trivial
theorem rk_H.grow {E : rk_E} {cl : List vw_C} {s : State} {M : rk_M} {H H' : Heap} (h : rk_H E cl s M H) (hg : ∀ q, q < H.size → H'[q]? = H[q]?) : rk_H E cl s M H' := by
  obtain ⟨h1, B, hB, h2⟩ := h
  exact ⟨h1, B, hB, fun t o r hv => (h2 t o r hv).grow hg⟩
/-- a throw: new, dup, ldc, <init>, athrow, and no handler -/
theorem rk_throw {l : Launch} {own : String} {d : Nat} {cc : ByteArray} {pc x idx is ic : Nat} {text : String} (hl : l.stackTraces = false) (hd0 : decode cc pc = .ok (.new idx, 3)) (hd1 : decode cc (pc + 3) = .ok (.dup, 1)) (hd2 : decode cc (pc + 4) = .ok (.ldc is, 2)) (hd3 : decode cc (pc + 6) = .ok (.invokespecial ic, 3)) (hd4 : decode cc (pc + 9) = .ok (.athrow, 1))
    (hw1 : Cond.classLink own idx (rk_xn x) ∈ lw_tbl) (hw2 : Cond.instantiable (rk_xn x) 6 ∈ lw_tbl) (hw3 : Cond.initialized (rk_xn x) ∈ lw_tbl) (hw4 : Cond.stringRef own is text ∈ lw_tbl) (hfit : Bundle.fit (rk_xn x) = true)
    (hck : (rk_thw own ic (rk_xn x)).all (fun w => decide (w ∈ lw_tbl) && (w.onTables && w.keepsFace)) = true) : rk_TK l own d cc pc x := by
  intro p e s m args below meth c E nL most post hx hb hTB hO hT hn hown hml hlocks hout hout9 hadm M al κ hal hκ hp H locs ls hH hS hL hst T hTh X
  have htr : e.platform.stackTraces = false := by rw [Jvm.Example.NoTraceControls.admits_follows X.admits]; exact hl
  have X' := rk_rebase X (k := 1) (n := 6) (show κ + 1 ≤ most from hκ) (show 200 * κ + 6 ≤ 200 * most by omega)
  have hWd : rk_Wd E rk_cs M (T.setFrames (.invoking m args :: below)) := rk_endW hTB hO hT hH hS hn hTh X.warmed
  obtain ⟨hTB', -, hT', hH', hn'⟩ := hWd
  have hs'h : (T.setFrames (.invoking m args :: below)).heap = H := hTh
  have hown' : (T.setFrames (.invoking m args :: below)).vm.findClass own = some m.cls := by
    show T.vm.findClass own = _
    rw [X.warmed.alike.findClass]; exact hown
  generalize hs' : T.setFrames (.invoking m args :: below) = s' at X' hTB' hT' hH' hn' hs'h hown'
  obtain ⟨vm₁, cX, kX, hfX, hkX, hkind, hsz, X₁, st1⟩ := X'.newCold hx (own := own) (C := rk_xn x) (index := idx) (n := 6) hown' (hTB' _ hw1 (Or.inl rfl) args) (hTB' _ hw2 (Or.inl rfl) args) (hTB' _ hw3 (Or.inl rfl) args) (g := F0 m pc ls []) rfl (by rw [hb]; exact hd0) (Nat.le_refl _) (Nat.le_refl _)
  have hstr := hTB' _ hw4 (Or.inr (Or.inr (Or.inl ⟨_, _, _, rfl⟩))) args
  obtain ⟨kS, cfS, iS, aS, -, -, -, -, -, hevS⟩ := Cond.stringRef_spec hown' hstr
  generalize hT1 : (T.setVm vm₁).pushCell { cls := cX, slots := kX.instanceTypes.map defaultValue, vm := .none } = T₁ at X₁ st1
  have hcellA : T₁.heap[T.heap.size]? = some (freshCell cX kX) := by rw [← hT1]; exact State.heap_pushCell_size _ _
  have st2 := X₁.ldcString hx (own := own) (text := text) (index := is) hown' hstr hevS (g := F0 m (pc + 4) ls [.ref T.heap.size, .ref T.heap.size]) rfl (by rw [hb]; exact hd2)
  obtain ⟨U, hsteps, hrun, hend, hW, hsame, ce, hce, K⟩ := X₁.ctorThrowS hx htr (own := own) (cls := rk_xn x) (names := ["java/lang/RuntimeException", "java/lang/Exception"]) (ic := ic) hown' hfit (by decide +kernel) (rk_own_ok hTB' hn' hck) (fun y hy => by cases hy) hfX hkX hcellA
    (by rw [hs'h, ← hTh]; exact Nat.le_refl _) (msg := .ref aS) rfl (g := F0 m (pc + 6) ls [.ref aS, .ref T.heap.size, .ref T.heap.size]) rfl (by rw [hml, ← hal]; exact hL.1.1) rfl rfl (rest := []) rfl (by rw [hb]; exact hd3) (by rw [hb]; exact hd4) hout9 (by show 2 + 3 < 8 * d + 8; omega) (by show 2 * 0 + _ + (13 * (2 + 1) + 42) ≤ 150 * d + 150; simp [Value.category]) hlocks
  have hWU : s.WarmedH U.vm := State.WarmedH.trans X.warmed (by rw [← hs'] at hW; exact hW)
  have hkeep : ∀ q, q < H.size → U.heap[q]? = H[q]? := fun q hq => by
    have h1 := rk_same0 hsame (q := q) (by rw [hs'h]; exact hq)
    rw [hs'h] at h1; exact h1
  have hzU : H.size ≤ U.heap.size := by have h1 := hsame.2.1; rw [hs'h] at h1; exact h1
  refine ⟨U, ?_, .threw T.heap.size, hrun, hend, ⟨⟨.inr x, M, hp, ⟨T.heap.size, ce, rfl, hce, K.vm, ?_⟩, rk_TB.warm hWU hTB, hO, hT.moved hWU.alike, ?_, hn.moved hWU (Nat.le_trans hS.1 hzU) (fun q h1 h2 => ?_)⟩, Nat.le_trans hS.1 hzU, fun q h1 h2 => ?_⟩, hWU, locs, ?_, hS.2.2⟩
  · refine st1 _ ?_
    show Steps p.tables e below (T₁.setTop (F0 m (pc + 3) ls [.ref T.heap.size])) _
    jvm_step X₁.here [X₁.here.top, hx, hb, hd1, Value.category]
    exact st2 _ hsteps
  · rw [hW.alike.findClass]; exact K.cls
  · exact (hH.grow hkeep).moved hWU.alike
  · rw [hkeep q (Nat.lt_of_lt_of_le h1 hS.1)]; exact hS.2.1 q h1 h2
  · rw [hkeep q (Nat.lt_of_lt_of_le h1 hS.1)]; exact hS.2.1 q h1 h2
  · have h1 : T.sameButNew (U.setVm T.vm) [] 1 6 := by
      obtain ⟨a1, a2, a3, a4, a5, a6⟩ := hsame
      rw [← hs'] at a1 a2 a3 a4 a5 a6
      rw [State.setFrames_setFrames] at a1
      exact ⟨a1, a2, a3, a4, a5, a6⟩
    have h2 := X.same.trans (h1.setVm s.vm)
    rw [List.append_nil] at h2
    exact h2.weaken (fun y hy _ => hy) hκ (by omega)
end RKT
end
section
/-! Names, code and links of the methods, by program (wip/whole/gen11.py) out of the printed listing of the class and of the Statement -/
def ft_mo : List (Nat × Nat × Nat × Int) := [(7, 3, 1, 1), (13, 3, 2, 2), (16, 3, 3, 3), (20, 3, 4, 4), (24, 3, 5, 5), (27, 3, 6, 6), (30, 3, 7, 7), (33, 3, 8, 8), (36, 3, 9, 9), (39, 3, 10, 10), (42, 3, 11, 11), (45, 3, 12, 12), (48, 3, 13, 13), (51, 3, 15, 15), (54, 3, 16, 16), (57, 3, 18, 18), (63, 3, 0, 0), (141, 3, 17, 17), (148, 3, 14, 14)]
theorem ftc_mo : rk_ftc "OrdinalRinkModel" ft_mo = true := by decide +kernel
def yn_mo_thrown : MethodName := ⟨"OrdinalRinkModel", "thrown", "()I"⟩
def kc_mo_thrown : List (Nat × Jvm.ClassFile.Instr × Nat) := [(0, .aload_n 0, 1), (1, .getfield 63, 3), (4, .ireturn, 1)]
theorem ck_mo_thrown : rk_chk prog_5_method_2_code kc_mo_thrown = true := by decide +kernel
theorem ww_mo_thrown : Cond.code yn_mo_thrown prog_5_method_2_code 1 (some .int) ∈ lw_tbl ∧ Cond.initialized yn_mo_thrown.cls ∈ lw_tbl ∧ Cond.instanceMethod yn_mo_thrown ∈ lw_tbl ∧ Cond.selects "OrdinalRinkModel" yn_mo_thrown yn_mo_thrown ∈ lw_tbl := ⟨List.mem_of_getElem? (i := 974) (by decide +kernel), List.mem_of_getElem? (i := 58) (by decide +kernel), List.mem_of_getElem? (i := 972) (by decide +kernel), List.mem_of_getElem? (i := 973) (by decide +kernel)⟩
def yn_mo_refused : MethodName := ⟨"OrdinalRinkModel", "refused", "(I)Z"⟩
def kc_mo_refused : List (Nat × Jvm.ClassFile.Instr × Nat) := [(0, .aload_n 0, 1), (1, .iload_n 1, 1), (2, .putfield 63, 3), (5, .iload_n 1, 1), (6, .ifCond .le 7, 3), (9, .iconst 1, 1), (10, .goto 4, 3), (13, .iconst 0, 1), (14, .ireturn, 1)]
theorem ck_mo_refused : rk_chk prog_5_method_3_code kc_mo_refused = true := by decide +kernel
theorem ww_mo_refused : Cond.code yn_mo_refused prog_5_method_3_code 2 (some .boolean) ∈ lw_tbl ∧ Cond.initialized yn_mo_refused.cls ∈ lw_tbl ∧ Cond.instanceMethod yn_mo_refused ∈ lw_tbl ∧ Cond.selects "OrdinalRinkModel" yn_mo_refused yn_mo_refused ∈ lw_tbl := ⟨List.mem_of_getElem? (i := 982) (by decide +kernel), List.mem_of_getElem? (i := 58) (by decide +kernel), List.mem_of_getElem? (i := 981) (by decide +kernel), List.mem_of_getElem? (i := 27) (by decide +kernel)⟩
def yn_mo_clear : MethodName := ⟨"OrdinalRinkModel", "clear", "()V"⟩
def kc_mo_clear : List (Nat × Jvm.ClassFile.Instr × Nat) := [(0, .iconst 0, 1), (1, .istore_n 1, 1), (2, .iload_n 1, 1), (3, .sipush 270, 3), (6, .if_icmp .ge 60, 3), (9, .aload_n 0, 1), (10, .getfield 16, 3), (13, .iload_n 1, 1), (14, .iconst 0, 1), (15, .bastore, 1), (16, .aload_n 0, 1), (17, .getfield 20, 3), (20, .iload_n 1, 1), (21, .iconst 0, 1), (22, .iastore, 1), (23, .aload_n 0, 1), (24, .getfield 24, 3), (27, .iload_n 1, 1), (28, .iconst 0, 1), (29, .iastore, 1), (30, .aload_n 0, 1), (31, .getfield 27, 3), (34, .iload_n 1, 1), (35, .bipush 60, 2), (37, .irem, 1), (38, .iconst 0, 1), (39, .iastore, 1), (40, .aload_n 0, 1), (41, .getfield 30, 3), (44, .iload_n 1, 1), (45, .bipush 27, 2), (47, .irem, 1), (48, .iconst 0, 1), (49, .bastore, 1), (50, .aload_n 0, 1), (51, .getfield 42, 3), (54, .iload_n 1, 1), (55, .bipush 10, 2), (57, .irem, 1), (58, .iconst 3, 1), (59, .iastore, 1), (60, .iinc 1 1, 3), (63, .goto (-61), 3), (66, .iconst 0, 1), (67, .istore_n 1, 1), (68, .iload_n 1, 1), (69, .iconst 3, 1), (70, .if_icmp .ge 47, 3), (73, .aload_n 0, 1), (74, .getfield 33, 3), (77, .iload_n 1, 1), (78, .iload_n 1, 1), (79, .ifCond .ne 7, 3), (82, .iconst 0, 1), (83, .goto 4, 3), (86, .iconst 1, 1), (87, .iastore, 1), (88, .aload_n 0, 1), (89, .getfield 36, 3), (92, .iload_n 1, 1), (93, .iload_n 1, 1), (94, .ifCond .ne 7, 3), (97, .iconst 5, 1), (98, .goto 5, 3), (101, .bipush 10, 2), (103, .iastore, 1), (104, .aload_n 0, 1), (105, .getfield 39, 3), (108, .iload_n 1, 1), (109, .iconst 0, 1), (110, .bastore, 1), (111, .iinc 1 1, 3), (114, .goto (-46), 3), (117, .return_, 1)]
theorem ck_mo_clear : rk_chk prog_5_method_4_code kc_mo_clear = true := by decide +kernel
theorem ww_mo_clear : Cond.code yn_mo_clear prog_5_method_4_code 2 none ∈ lw_tbl ∧ Cond.initialized yn_mo_clear.cls ∈ lw_tbl ∧ Cond.instanceMethod yn_mo_clear ∈ lw_tbl ∧ Cond.selects "OrdinalRinkModel" yn_mo_clear yn_mo_clear ∈ lw_tbl := ⟨List.mem_of_getElem? (i := 912) (by decide +kernel), List.mem_of_getElem? (i := 58) (by decide +kernel), List.mem_of_getElem? (i := 911) (by decide +kernel), List.mem_of_getElem? (i := 26) (by decide +kernel)⟩
def yn_mo_event : MethodName := ⟨"OrdinalRinkModel", "event", "(II)V"⟩
def kc_mo_event : List (Nat × Jvm.ClassFile.Instr × Nat) := [(0, .aload_n 0, 1), (1, .iload_n 1, 1), (2, .iconst 2, 1), (3, .if_icmp .lt 20, 3), (6, .iload_n 1, 1), (7, .bipush 10, 2), (9, .if_icmp .gt 14, 3), (12, .iload_n 2, 1), (13, .iconst 3, 1), (14, .if_icmp .lt 9, 3), (17, .iload_n 2, 1), (18, .bipush 9, 2), (20, .if_icmp .le 7, 3), (23, .iconst 1, 1), (24, .goto 4, 3), (27, .iconst 0, 1), (28, .invokevirtual 66, 3), (31, .ifCond .eq 4, 3), (34, .return_, 1), (35, .aload_n 0, 1), (36, .iload_n 1, 1), (37, .putfield 7, 3), (40, .aload_n 0, 1), (41, .iload_n 2, 1), (42, .putfield 13, 3), (45, .aload_n 0, 1), (46, .invokevirtual 60, 3), (49, .return_, 1)]
theorem ck_mo_event : rk_chk prog_5_method_5_code kc_mo_event = true := by decide +kernel
theorem ww_mo_event : Cond.code yn_mo_event prog_5_method_5_code 3 none ∈ lw_tbl ∧ Cond.initialized yn_mo_event.cls ∈ lw_tbl ∧ Cond.instanceMethod yn_mo_event ∈ lw_tbl ∧ Cond.selects "OrdinalRinkModel" yn_mo_event yn_mo_event ∈ lw_tbl := ⟨List.mem_of_getElem? (i := 978) (by decide +kernel), List.mem_of_getElem? (i := 58) (by decide +kernel), List.mem_of_getElem? (i := 976) (by decide +kernel), List.mem_of_getElem? (i := 977) (by decide +kernel)⟩
def yn_mo_isSegment : MethodName := ⟨"OrdinalRinkModel", "isSegment", "(I)Z"⟩
def kc_mo_isSegment : List (Nat × Jvm.ClassFile.Instr × Nat) := [(0, .iload_n 0, 1), (1, .ifCond .lt 12, 3), (4, .iload_n 0, 1), (5, .iconst 3, 1), (6, .if_icmp .ge 7, 3), (9, .iconst 1, 1), (10, .goto 4, 3), (13, .iconst 0, 1), (14, .ireturn, 1)]
theorem ck_mo_isSegment : rk_chk prog_5_method_6_code kc_mo_isSegment = true := by decide +kernel
theorem ww_mo_isSegment : Cond.code yn_mo_isSegment prog_5_method_6_code 1 (some .boolean) ∈ lw_tbl ∧ Cond.initialized yn_mo_isSegment.cls ∈ lw_tbl ∧ Cond.static yn_mo_isSegment ∈ lw_tbl := ⟨List.mem_of_getElem? (i := 989) (by decide +kernel), List.mem_of_getElem? (i := 58) (by decide +kernel), List.mem_of_getElem? (i := 988) (by decide +kernel)⟩
def yn_mo_isSkater : MethodName := ⟨"OrdinalRinkModel", "isSkater", "(I)Z"⟩
def kc_mo_isSkater : List (Nat × Jvm.ClassFile.Instr × Nat) := [(0, .iload_n 1, 1), (1, .ifCond .lt 15, 3), (4, .iload_n 1, 1), (5, .aload_n 0, 1), (6, .getfield 7, 3), (9, .if_icmp .ge 7, 3), (12, .iconst 1, 1), (13, .goto 4, 3), (16, .iconst 0, 1), (17, .ireturn, 1)]
theorem ck_mo_isSkater : rk_chk prog_5_method_7_code kc_mo_isSkater = true := by decide +kernel
theorem ww_mo_isSkater : Cond.code yn_mo_isSkater prog_5_method_7_code 2 (some .boolean) ∈ lw_tbl ∧ Cond.initialized yn_mo_isSkater.cls ∈ lw_tbl ∧ Cond.instanceMethod yn_mo_isSkater ∈ lw_tbl ∧ Cond.selects "OrdinalRinkModel" yn_mo_isSkater yn_mo_isSkater ∈ lw_tbl := ⟨List.mem_of_getElem? (i := 1001) (by decide +kernel), List.mem_of_getElem? (i := 58) (by decide +kernel), List.mem_of_getElem? (i := 1000) (by decide +kernel), List.mem_of_getElem? (i := 29) (by decide +kernel)⟩
def yn_mo_isJudge : MethodName := ⟨"OrdinalRinkModel", "isJudge", "(I)Z"⟩
def kc_mo_isJudge : List (Nat × Jvm.ClassFile.Instr × Nat) := [(0, .iload_n 1, 1), (1, .ifCond .lt 15, 3), (4, .iload_n 1, 1), (5, .aload_n 0, 1), (6, .getfield 13, 3), (9, .if_icmp .ge 7, 3), (12, .iconst 1, 1), (13, .goto 4, 3), (16, .iconst 0, 1), (17, .ireturn, 1)]
theorem ck_mo_isJudge : rk_chk prog_5_method_8_code kc_mo_isJudge = true := by decide +kernel
theorem ww_mo_isJudge : Cond.code yn_mo_isJudge prog_5_method_8_code 2 (some .boolean) ∈ lw_tbl ∧ Cond.initialized yn_mo_isJudge.cls ∈ lw_tbl ∧ Cond.instanceMethod yn_mo_isJudge ∈ lw_tbl ∧ Cond.selects "OrdinalRinkModel" yn_mo_isJudge yn_mo_isJudge ∈ lw_tbl := ⟨List.mem_of_getElem? (i := 997) (by decide +kernel), List.mem_of_getElem? (i := 58) (by decide +kernel), List.mem_of_getElem? (i := 996) (by decide +kernel), List.mem_of_getElem? (i := 28) (by decide +kernel)⟩
def yn_mo_isNumber : MethodName := ⟨"OrdinalRinkModel", "isNumber", "(I)Z"⟩
def kc_mo_isNumber : List (Nat × Jvm.ClassFile.Instr × Nat) := [(0, .iload_n 0, 1), (1, .ifCond .lt 13, 3), (4, .iload_n 0, 1), (5, .bipush 60, 2), (7, .if_icmp .gt 7, 3), (10, .iconst 1, 1), (11, .goto 4, 3), (14, .iconst 0, 1), (15, .ireturn, 1)]
theorem ck_mo_isNumber : rk_chk prog_5_method_9_code kc_mo_isNumber = true := by decide +kernel
theorem ww_mo_isNumber : Cond.code yn_mo_isNumber prog_5_method_9_code 1 (some .boolean) ∈ lw_tbl ∧ Cond.initialized yn_mo_isNumber.cls ∈ lw_tbl ∧ Cond.static yn_mo_isNumber ∈ lw_tbl := ⟨List.mem_of_getElem? (i := 1004) (by decide +kernel), List.mem_of_getElem? (i := 58) (by decide +kernel), List.mem_of_getElem? (i := 1003) (by decide +kernel)⟩
def yn_mo_segment : MethodName := ⟨"OrdinalRinkModel", "segment", "(III)V"⟩
def kc_mo_segment : List (Nat × Jvm.ClassFile.Instr × Nat) := [(0, .iload_n 2, 1), (1, .ifCond .eq 8, 3), (4, .iload_n 2, 1), (5, .iconst 1, 1), (6, .if_icmp .ne 18, 3), (9, .iload_n 3, 1), (10, .iconst 1, 1), (11, .if_icmp .lt 13, 3), (14, .iload_n 3, 1), (15, .bipush 20, 2), (17, .if_icmp .gt 7, 3), (20, .iconst 1, 1), (21, .goto 4, 3), (24, .iconst 0, 1), (25, .istore 4, 2), (27, .aload_n 0, 1), (28, .iload_n 1, 1), (29, .invokestatic 70, 3), (32, .ifCond .ne 7, 3), (35, .iconst 1, 1), (36, .goto 26, 3), (39, .iload 4, 2), (41, .ifCond .ne 7, 3), (44, .iconst 2, 1), (45, .goto 17, 3), (48, .aload_n 0, 1), (49, .getfield 39, 3), (52, .iload_n 1, 1), (53, .baload, 1), (54, .ifCond .eq 7, 3), (57, .iconst 3, 1), (58, .goto 4, 3), (61, .iconst 0, 1), (62, .invokevirtual 66, 3), (65, .ifCond .ne 17, 3), (68, .aload_n 0, 1), (69, .getfield 33, 3), (72, .iload_n 1, 1), (73, .iload_n 2, 1), (74, .iastore, 1), (75, .aload_n 0, 1), (76, .getfield 36, 3), (79, .iload_n 1, 1), (80, .iload_n 3, 1), (81, .iastore, 1), (82, .return_, 1)]
theorem ck_mo_segment : rk_chk prog_5_method_10_code kc_mo_segment = true := by decide +kernel
theorem ww_mo_segment : Cond.code yn_mo_segment prog_5_method_10_code 5 none ∈ lw_tbl ∧ Cond.initialized yn_mo_segment.cls ∈ lw_tbl ∧ Cond.instanceMethod yn_mo_segment ∈ lw_tbl ∧ Cond.selects "OrdinalRinkModel" yn_mo_segment yn_mo_segment ∈ lw_tbl := ⟨List.mem_of_getElem? (i := 986) (by decide +kernel), List.mem_of_getElem? (i := 58) (by decide +kernel), List.mem_of_getElem? (i := 984) (by decide +kernel), List.mem_of_getElem? (i := 985) (by decide +kernel)⟩
def yn_mo_mark : MethodName := ⟨"OrdinalRinkModel", "mark", "(IIIII)V"⟩
def kc_mo_mark : List (Nat × Jvm.ClassFile.Instr × Nat) := [(0, .iload_n 1, 1), (1, .invokestatic 70, 3), (4, .ifCond .eq 23, 3), (7, .aload_n 0, 1), (8, .iload_n 2, 1), (9, .invokevirtual 73, 3), (12, .ifCond .eq 15, 3), (15, .aload_n 0, 1), (16, .iload_n 3, 1), (17, .invokevirtual 76, 3), (20, .ifCond .eq 7, 3), (23, .iconst 1, 1), (24, .goto 4, 3), (27, .iconst 0, 1), (28, .istore 6, 2), (30, .aload_n 0, 1), (31, .iload 6, 2), (33, .ifCond .ne 7, 3), (36, .iconst 1, 1), (37, .goto 37, 3), (40, .iload 4, 2), (42, .invokestatic 79, 3), (45, .ifCond .eq 11, 3), (48, .iload 5, 2), (50, .invokestatic 79, 3), (53, .ifCond .ne 7, 3), (56, .iconst 2, 1), (57, .goto 17, 3), (60, .aload_n 0, 1), (61, .getfield 39, 3), (64, .iload_n 1, 1), (65, .baload, 1), (66, .ifCond .eq 7, 3), (69, .iconst 3, 1), (70, .goto 4, 3), (73, .iconst 0, 1), (74, .invokevirtual 66, 3), (77, .ifCond .ne 23, 3), (80, .aload_n 0, 1), (81, .bipush 10, 2), (83, .bipush 9, 2), (85, .iload_n 1, 1), (86, .imul, 1), (87, .iload_n 2, 1), (88, .iadd, 1), (89, .imul, 1), (90, .iload_n 3, 1), (91, .iadd, 1), (92, .iconst 1, 1), (93, .iload 4, 2), (95, .iload 5, 2), (97, .invokevirtual 82, 3), (100, .return_, 1)]
theorem ck_mo_mark : rk_chk prog_5_method_11_code kc_mo_mark = true := by decide +kernel
theorem ww_mo_mark : Cond.code yn_mo_mark prog_5_method_11_code 7 none ∈ lw_tbl ∧ Cond.initialized yn_mo_mark.cls ∈ lw_tbl ∧ Cond.instanceMethod yn_mo_mark ∈ lw_tbl ∧ Cond.selects "OrdinalRinkModel" yn_mo_mark yn_mo_mark ∈ lw_tbl := ⟨List.mem_of_getElem? (i := 993) (by decide +kernel), List.mem_of_getElem? (i := 58) (by decide +kernel), List.mem_of_getElem? (i := 991) (by decide +kernel), List.mem_of_getElem? (i := 992) (by decide +kernel)⟩
def yn_mo_put : MethodName := ⟨"OrdinalRinkModel", "put", "(IZII)V"⟩
def kc_mo_put : List (Nat × Jvm.ClassFile.Instr × Nat) := [(0, .aload_n 0, 1), (1, .getfield 16, 3), (4, .iload_n 1, 1), (5, .iload_n 2, 1), (6, .bastore, 1), (7, .aload_n 0, 1), (8, .getfield 20, 3), (11, .iload_n 1, 1), (12, .iload_n 3, 1), (13, .iastore, 1), (14, .aload_n 0, 1), (15, .getfield 24, 3), (18, .iload_n 1, 1), (19, .iload 4, 2), (21, .iastore, 1), (22, .return_, 1)]
theorem ck_mo_put : rk_chk prog_5_method_12_code kc_mo_put = true := by decide +kernel
theorem ww_mo_put : Cond.code yn_mo_put prog_5_method_12_code 5 none ∈ lw_tbl ∧ Cond.initialized yn_mo_put.cls ∈ lw_tbl ∧ Cond.instanceMethod yn_mo_put ∈ lw_tbl ∧ Cond.selects "OrdinalRinkModel" yn_mo_put yn_mo_put ∈ lw_tbl := ⟨List.mem_of_getElem? (i := 1008) (by decide +kernel), List.mem_of_getElem? (i := 58) (by decide +kernel), List.mem_of_getElem? (i := 1007) (by decide +kernel), List.mem_of_getElem? (i := 30) (by decide +kernel)⟩
def yn_mo_deduct : MethodName := ⟨"OrdinalRinkModel", "deduct", "(IIII)I"⟩
def kc_mo_deduct : List (Nat × Jvm.ClassFile.Instr × Nat) := [(0, .iload_n 1, 1), (1, .invokestatic 70, 3), (4, .ifCond .eq 24, 3), (7, .aload_n 0, 1), (8, .iload_n 2, 1), (9, .invokevirtual 76, 3), (12, .ifCond .eq 16, 3), (15, .iload_n 3, 1), (16, .ifCond .eq 8, 3), (19, .iload_n 3, 1), (20, .iconst 1, 1), (21, .if_icmp .ne 7, 3), (24, .iconst 1, 1), (25, .goto 4, 3), (28, .iconst 0, 1), (29, .istore 5, 2), (31, .aload_n 0, 1), (32, .iload 5, 2), (34, .ifCond .ne 7, 3), (37, .iconst 1, 1), (38, .goto 29, 3), (41, .iload 4, 2), (43, .invokestatic 79, 3), (46, .ifCond .ne 7, 3), (49, .iconst 2, 1), (50, .goto 17, 3), (53, .aload_n 0, 1), (54, .getfield 39, 3), (57, .iload_n 1, 1), (58, .baload, 1), (59, .ifCond .eq 7, 3), (62, .iconst 3, 1), (63, .goto 4, 3), (66, .iconst 0, 1), (67, .invokevirtual 66, 3), (70, .ifCond .eq 5, 3), (73, .iconst 0, 1), (74, .ireturn, 1), (75, .iconst 2, 1), (76, .bipush 10, 2), (78, .iload_n 1, 1), (79, .imul, 1), (80, .iload_n 2, 1), (81, .iadd, 1), (82, .imul, 1), (83, .iload_n 3, 1), (84, .iadd, 1), (85, .istore 6, 2), (87, .aload_n 0, 1), (88, .getfield 27, 3), (91, .iload 6, 2), (93, .iaload, 1), (94, .istore 7, 2), (96, .aload_n 0, 1), (97, .getfield 27, 3), (100, .iload 6, 2), (102, .iload 4, 2), (104, .iastore, 1), (105, .iload 7, 2), (107, .ireturn, 1)]
theorem ck_mo_deduct : rk_chk prog_5_method_13_code kc_mo_deduct = true := by decide +kernel
theorem ww_mo_deduct : Cond.code yn_mo_deduct prog_5_method_13_code 8 (some .int) ∈ lw_tbl ∧ Cond.initialized yn_mo_deduct.cls ∈ lw_tbl ∧ Cond.instanceMethod yn_mo_deduct ∈ lw_tbl ∧ Cond.selects "OrdinalRinkModel" yn_mo_deduct yn_mo_deduct ∈ lw_tbl := ⟨List.mem_of_getElem? (i := 1012) (by decide +kernel), List.mem_of_getElem? (i := 58) (by decide +kernel), List.mem_of_getElem? (i := 1010) (by decide +kernel), List.mem_of_getElem? (i := 1011) (by decide +kernel)⟩
def yn_mo_panel : MethodName := ⟨"OrdinalRinkModel", "panel", "(I)I"⟩
def kc_mo_panel : List (Nat × Jvm.ClassFile.Instr × Nat) := [(0, .iconst 0, 1), (1, .istore_n 2, 1), (2, .iconst 0, 1), (3, .istore_n 3, 1), (4, .iload_n 3, 1), (5, .aload_n 0, 1), (6, .getfield 13, 3), (9, .if_icmp .ge 31, 3), (12, .aload_n 0, 1), (13, .getfield 30, 3), (16, .bipush 9, 2), (18, .iload_n 1, 1), (19, .imul, 1), (20, .iload_n 3, 1), (21, .iadd, 1), (22, .baload, 1), (23, .ifCond .eq 7, 3), (26, .iload_n 2, 1), (27, .goto 6, 3), (30, .iload_n 2, 1), (31, .iconst 1, 1), (32, .iadd, 1), (33, .istore_n 2, 1), (34, .iinc 3 1, 3), (37, .goto (-33), 3), (40, .iload_n 2, 1), (41, .ireturn, 1)]
theorem ck_mo_panel : rk_chk prog_5_method_14_code kc_mo_panel = true := by decide +kernel
theorem ww_mo_panel : Cond.code yn_mo_panel prog_5_method_14_code 4 (some .int) ∈ lw_tbl ∧ Cond.initialized yn_mo_panel.cls ∈ lw_tbl ∧ Cond.instanceMethod yn_mo_panel ∈ lw_tbl ∧ Cond.selects "OrdinalRinkModel" yn_mo_panel yn_mo_panel ∈ lw_tbl := ⟨List.mem_of_getElem? (i := 1020) (by decide +kernel), List.mem_of_getElem? (i := 58) (by decide +kernel), List.mem_of_getElem? (i := 1019) (by decide +kernel), List.mem_of_getElem? (i := 31) (by decide +kernel)⟩
def yn_mo_strike : MethodName := ⟨"OrdinalRinkModel", "strike", "(IIZ)I"⟩
def kc_mo_strike : List (Nat × Jvm.ClassFile.Instr × Nat) := [(0, .iload_n 1, 1), (1, .invokestatic 70, 3), (4, .ifCond .eq 15, 3), (7, .aload_n 0, 1), (8, .iload_n 2, 1), (9, .invokevirtual 73, 3), (12, .ifCond .eq 7, 3), (15, .iconst 1, 1), (16, .goto 4, 3), (19, .iconst 0, 1), (20, .istore 4, 2), (22, .iload 4, 2), (24, .ifCond .eq 34, 3), (27, .iload_n 3, 1), (28, .ifCond .eq 30, 3), (31, .aload_n 0, 1), (32, .getfield 30, 3), (35, .bipush 9, 2), (37, .iload_n 1, 1), (38, .imul, 1), (39, .iload_n 2, 1), (40, .iadd, 1), (41, .baload, 1), (42, .ifCond .ne 16, 3), (45, .aload_n 0, 1), (46, .iload_n 1, 1), (47, .invokevirtual 86, 3), (50, .iconst 3, 1), (51, .if_icmp .ne 7, 3), (54, .iconst 1, 1), (55, .goto 4, 3), (58, .iconst 0, 1), (59, .istore 5, 2), (61, .aload_n 0, 1), (62, .iload 4, 2), (64, .ifCond .ne 7, 3), (67, .iconst 1, 1), (68, .goto 22, 3), (71, .aload_n 0, 1), (72, .getfield 39, 3), (75, .iload_n 1, 1), (76, .baload, 1), (77, .ifCond .ne 8, 3), (80, .iload 5, 2), (82, .ifCond .eq 7, 3), (85, .iconst 2, 1), (86, .goto 4, 3), (89, .iconst 0, 1), (90, .invokevirtual 66, 3), (93, .ifCond .eq 5, 3), (96, .iconst 0, 1), (97, .ireturn, 1), (98, .aload_n 0, 1), (99, .getfield 30, 3), (102, .bipush 9, 2), (104, .iload_n 1, 1), (105, .imul, 1), (106, .iload_n 2, 1), (107, .iadd, 1), (108, .iload_n 3, 1), (109, .bastore, 1), (110, .aload_n 0, 1), (111, .iload_n 1, 1), (112, .invokevirtual 86, 3), (115, .ireturn, 1)]
theorem ck_mo_strike : rk_chk prog_5_method_15_code kc_mo_strike = true := by decide +kernel
theorem ww_mo_strike : Cond.code yn_mo_strike prog_5_method_15_code 6 (some .int) ∈ lw_tbl ∧ Cond.initialized yn_mo_strike.cls ∈ lw_tbl ∧ Cond.instanceMethod yn_mo_strike ∈ lw_tbl ∧ Cond.selects "OrdinalRinkModel" yn_mo_strike yn_mo_strike ∈ lw_tbl := ⟨List.mem_of_getElem? (i := 1016) (by decide +kernel), List.mem_of_getElem? (i := 58) (by decide +kernel), List.mem_of_getElem? (i := 1014) (by decide +kernel), List.mem_of_getElem? (i := 1015) (by decide +kernel)⟩
def yn_mo_withdraw : MethodName := ⟨"OrdinalRinkModel", "withdraw", "(II)I"⟩
def kc_mo_withdraw : List (Nat × Jvm.ClassFile.Instr × Nat) := [(0, .iconst 0, 1), (1, .istore_n 3, 1), (2, .iconst 0, 1), (3, .istore 4, 2), (5, .iload 4, 2), (7, .iconst 3, 1), (8, .if_icmp .ge 67, 3), (11, .aload_n 0, 1), (12, .iload_n 1, 1), (13, .invokevirtual 76, 3), (16, .ifCond .eq 59, 3), (19, .iload_n 3, 1), (20, .ifCond .ne 43, 3), (23, .aload_n 0, 1), (24, .getfield 39, 3), (27, .iload 4, 2), (29, .baload, 1), (30, .ifCond .eq 37, 3), (33, .iload 4, 2), (35, .aload_n 0, 1), (36, .getfield 42, 3), (39, .iload_n 1, 1), (40, .iaload, 1), (41, .if_icmp .ge 7, 3), (44, .iconst 1, 1), (45, .goto 4, 3), (48, .iconst 0, 1), (49, .iload 4, 2), (51, .iload_n 2, 1), (52, .if_icmp .ge 7, 3), (55, .iconst 1, 1), (56, .goto 4, 3), (59, .iconst 0, 1), (60, .if_icmp .eq 7, 3), (63, .iconst 1, 1), (64, .goto 4, 3), (67, .iconst 0, 1), (68, .istore_n 3, 1), (69, .iinc 4 1, 3), (72, .goto (-67), 3), (75, .aload_n 0, 1), (76, .aload_n 0, 1), (77, .iload_n 1, 1), (78, .invokevirtual 76, 3), (81, .ifCond .ne 7, 3), (84, .iconst 1, 1), (85, .goto 25, 3), (88, .iload_n 2, 1), (89, .ifCond .lt 8, 3), (92, .iload_n 2, 1), (93, .iconst 3, 1), (94, .if_icmp .le 7, 3), (97, .iconst 2, 1), (98, .goto 12, 3), (101, .iload_n 3, 1), (102, .ifCond .eq 7, 3), (105, .iconst 3, 1), (106, .goto 4, 3), (109, .iconst 0, 1), (110, .invokevirtual 66, 3), (113, .ifCond .eq 5, 3), (116, .iconst 0, 1), (117, .ireturn, 1), (118, .aload_n 0, 1), (119, .getfield 42, 3), (122, .iload_n 1, 1), (123, .iaload, 1), (124, .istore 4, 2), (126, .aload_n 0, 1), (127, .getfield 42, 3), (130, .iload_n 1, 1), (131, .iload_n 2, 1), (132, .iastore, 1), (133, .iload 4, 2), (135, .ireturn, 1)]
theorem ck_mo_withdraw : rk_chk prog_5_method_16_code kc_mo_withdraw = true := by decide +kernel
theorem ww_mo_withdraw : Cond.code yn_mo_withdraw prog_5_method_16_code 5 (some .int) ∈ lw_tbl ∧ Cond.initialized yn_mo_withdraw.cls ∈ lw_tbl ∧ Cond.instanceMethod yn_mo_withdraw ∈ lw_tbl ∧ Cond.selects "OrdinalRinkModel" yn_mo_withdraw yn_mo_withdraw ∈ lw_tbl := ⟨List.mem_of_getElem? (i := 1024) (by decide +kernel), List.mem_of_getElem? (i := 58) (by decide +kernel), List.mem_of_getElem? (i := 1022) (by decide +kernel), List.mem_of_getElem? (i := 1023) (by decide +kernel)⟩
def yn_mo_starts : MethodName := ⟨"OrdinalRinkModel", "starts", "(II)Z"⟩
def kc_mo_starts : List (Nat × Jvm.ClassFile.Instr × Nat) := [(0, .iload_n 2, 1), (1, .aload_n 0, 1), (2, .getfield 7, 3), (5, .if_icmp .ge 17, 3), (8, .iload_n 1, 1), (9, .aload_n 0, 1), (10, .getfield 42, 3), (13, .iload_n 2, 1), (14, .iaload, 1), (15, .if_icmp .ge 7, 3), (18, .iconst 1, 1), (19, .goto 4, 3), (22, .iconst 0, 1), (23, .ireturn, 1)]
theorem ck_mo_starts : rk_chk prog_5_method_17_code kc_mo_starts = true := by decide +kernel
theorem ww_mo_starts : Cond.code yn_mo_starts prog_5_method_17_code 3 (some .boolean) ∈ lw_tbl ∧ Cond.initialized yn_mo_starts.cls ∈ lw_tbl ∧ Cond.instanceMethod yn_mo_starts ∈ lw_tbl ∧ Cond.selects "OrdinalRinkModel" yn_mo_starts yn_mo_starts ∈ lw_tbl := ⟨List.mem_of_getElem? (i := 1036) (by decide +kernel), List.mem_of_getElem? (i := 58) (by decide +kernel), List.mem_of_getElem? (i := 1035) (by decide +kernel), List.mem_of_getElem? (i := 33) (by decide +kernel)⟩
def yn_mo_lessened : MethodName := ⟨"OrdinalRinkModel", "lessened", "(II)I"⟩
def kc_mo_lessened : List (Nat × Jvm.ClassFile.Instr × Nat) := [(0, .iload_n 1, 1), (1, .iload_n 2, 1), (2, .if_icmp .le 9, 3), (5, .iload_n 1, 1), (6, .iload_n 2, 1), (7, .isub, 1), (8, .goto 4, 3), (11, .iconst 0, 1), (12, .ireturn, 1)]
theorem ck_mo_lessened : rk_chk prog_5_method_18_code kc_mo_lessened = true := by decide +kernel
theorem ww_mo_lessened : Cond.code yn_mo_lessened prog_5_method_18_code 3 (some .int) ∈ lw_tbl ∧ Cond.initialized yn_mo_lessened.cls ∈ lw_tbl ∧ Cond.instanceMethod yn_mo_lessened ∈ lw_tbl ∧ Cond.selects "OrdinalRinkModel" yn_mo_lessened yn_mo_lessened ∈ lw_tbl := ⟨List.mem_of_getElem? (i := 1044) (by decide +kernel), List.mem_of_getElem? (i := 58) (by decide +kernel), List.mem_of_getElem? (i := 1043) (by decide +kernel), List.mem_of_getElem? (i := 35) (by decide +kernel)⟩
def yn_mo_isBetter : MethodName := ⟨"OrdinalRinkModel", "isBetter", "(IIII)Z"⟩
def kc_mo_isBetter : List (Nat × Jvm.ClassFile.Instr × Nat) := [(0, .bipush 10, 2), (2, .bipush 9, 2), (4, .iload_n 1, 1), (5, .imul, 1), (6, .iload_n 2, 1), (7, .iadd, 1), (8, .imul, 1), (9, .iload_n 3, 1), (10, .iadd, 1), (11, .istore 5, 2), (13, .bipush 10, 2), (15, .bipush 9, 2), (17, .iload_n 1, 1), (18, .imul, 1), (19, .iload_n 2, 1), (20, .iadd, 1), (21, .imul, 1), (22, .iload 4, 2), (24, .iadd, 1), (25, .istore 6, 2), (27, .iconst 2, 1), (28, .bipush 10, 2), (30, .iload_n 1, 1), (31, .imul, 1), (32, .iload_n 3, 1), (33, .iadd, 1), (34, .imul, 1), (35, .istore 7, 2), (37, .iconst 2, 1), (38, .bipush 10, 2), (40, .iload_n 1, 1), (41, .imul, 1), (42, .iload 4, 2), (44, .iadd, 1), (45, .imul, 1), (46, .istore 8, 2), (48, .aload_n 0, 1), (49, .aload_n 0, 1), (50, .getfield 20, 3), (53, .iload 5, 2), (55, .iaload, 1), (56, .aload_n 0, 1), (57, .getfield 27, 3), (60, .iload 7, 2), (62, .iaload, 1), (63, .invokevirtual 90, 3), (66, .istore 9, 2), (68, .aload_n 0, 1), (69, .aload_n 0, 1), (70, .getfield 20, 3), (73, .iload 6, 2), (75, .iaload, 1), (76, .aload_n 0, 1), (77, .getfield 27, 3), (80, .iload 8, 2), (82, .iaload, 1), (83, .invokevirtual 90, 3), (86, .istore 10, 2), (88, .iload 9, 2), (90, .aload_n 0, 1), (91, .aload_n 0, 1), (92, .getfield 24, 3), (95, .iload 5, 2), (97, .iaload, 1), (98, .aload_n 0, 1), (99, .getfield 27, 3), (102, .iload 7, 2), (104, .iconst 1, 1), (105, .iadd, 1), (106, .iaload, 1), (107, .invokevirtual 90, 3), (110, .iadd, 1), (111, .istore 11, 2), (113, .iload 10, 2), (115, .aload_n 0, 1), (116, .aload_n 0, 1), (117, .getfield 24, 3), (120, .iload 6, 2), (122, .iaload, 1), (123, .aload_n 0, 1), (124, .getfield 27, 3), (127, .iload 8, 2), (129, .iconst 1, 1), (130, .iadd, 1), (131, .iaload, 1), (132, .invokevirtual 90, 3), (135, .iadd, 1), (136, .istore 12, 2), (138, .iload 11, 2), (140, .iload 12, 2), (142, .if_icmp .eq 18, 3), (145, .iload 11, 2), (147, .iload 12, 2), (149, .if_icmp .le 7, 3), (152, .iconst 1, 1), (153, .goto 43, 3), (156, .iconst 0, 1), (157, .goto 39, 3), (160, .aload_n 0, 1), (161, .getfield 33, 3), (164, .iload_n 1, 1), (165, .iaload, 1), (166, .ifCond .ne 18, 3), (169, .iload 9, 2), (171, .iload 10, 2), (173, .if_icmp .le 7, 3), (176, .iconst 1, 1), (177, .goto 19, 3), (180, .iconst 0, 1), (181, .goto 15, 3), (184, .iload 9, 2), (186, .iload 10, 2), (188, .if_icmp .ge 7, 3), (191, .iconst 1, 1), (192, .goto 4, 3), (195, .iconst 0, 1), (196, .ireturn, 1)]
theorem ck_mo_isBetter : rk_chk prog_5_method_19_code kc_mo_isBetter = true := by decide +kernel
theorem ww_mo_isBetter : Cond.code yn_mo_isBetter prog_5_method_19_code 13 (some .boolean) ∈ lw_tbl ∧ Cond.initialized yn_mo_isBetter.cls ∈ lw_tbl ∧ Cond.instanceMethod yn_mo_isBetter ∈ lw_tbl ∧ Cond.selects "OrdinalRinkModel" yn_mo_isBetter yn_mo_isBetter ∈ lw_tbl := ⟨List.mem_of_getElem? (i := 1040) (by decide +kernel), List.mem_of_getElem? (i := 58) (by decide +kernel), List.mem_of_getElem? (i := 1039) (by decide +kernel), List.mem_of_getElem? (i := 34) (by decide +kernel)⟩
def yn_mo_reckonJudge : MethodName := ⟨"OrdinalRinkModel", "reckonJudge", "(II)Z"⟩
def kc_mo_reckonJudge : List (Nat × Jvm.ClassFile.Instr × Nat) := [(0, .iconst 1, 1), (1, .istore_n 3, 1), (2, .iconst 0, 1), (3, .istore 4, 2), (5, .iload 4, 2), (7, .aload_n 0, 1), (8, .getfield 7, 3), (11, .if_icmp .ge 49, 3), (14, .iload_n 3, 1), (15, .ifCond .eq 37, 3), (18, .aload_n 0, 1), (19, .iload_n 1, 1), (20, .iload 4, 2), (22, .invokevirtual 94, 3), (25, .ifCond .eq 23, 3), (28, .aload_n 0, 1), (29, .getfield 16, 3), (32, .bipush 10, 2), (34, .bipush 9, 2), (36, .iload_n 1, 1), (37, .imul, 1), (38, .iload_n 2, 1), (39, .iadd, 1), (40, .imul, 1), (41, .iload 4, 2), (43, .iadd, 1), (44, .baload, 1), (45, .ifCond .eq 7, 3), (48, .iconst 1, 1), (49, .goto 4, 3), (52, .iconst 0, 1), (53, .istore_n 3, 1), (54, .iinc 4 1, 3), (57, .goto (-52), 3), (60, .iconst 0, 1), (61, .istore 4, 2), (63, .iload 4, 2), (65, .aload_n 0, 1), (66, .getfield 7, 3), (69, .if_icmp .ge 96, 3), (72, .iconst 1, 1), (73, .istore 5, 2), (75, .iconst 0, 1), (76, .istore 6, 2), (78, .iload 6, 2), (80, .aload_n 0, 1), (81, .getfield 7, 3), (84, .if_icmp .ge 43, 3), (87, .aload_n 0, 1), (88, .iload_n 1, 1), (89, .iload 6, 2), (91, .invokevirtual 94, 3), (94, .ifCond .eq 23, 3), (97, .aload_n 0, 1), (98, .iload_n 1, 1), (99, .iload_n 2, 1), (100, .iload 6, 2), (102, .iload 4, 2), (104, .invokevirtual 98, 3), (107, .ifCond .eq 10, 3), (110, .iload 5, 2), (112, .iconst 1, 1), (113, .iadd, 1), (114, .goto 5, 3), (117, .iload 5, 2), (119, .istore 5, 2), (121, .iinc 6 1, 3), (124, .goto (-46), 3), (127, .aload_n 0, 1), (128, .getfield 45, 3), (131, .bipush 10, 2), (133, .iload_n 2, 1), (134, .imul, 1), (135, .iload 4, 2), (137, .iadd, 1), (138, .iload_n 3, 1), (139, .ifCond .eq 18, 3), (142, .aload_n 0, 1), (143, .iload_n 1, 1), (144, .iload 4, 2), (146, .invokevirtual 94, 3), (149, .ifCond .eq 8, 3), (152, .iload 5, 2), (154, .goto 4, 3), (157, .iconst 0, 1), (158, .iastore, 1), (159, .iinc 4 1, 3), (162, .goto (-99), 3), (165, .iload_n 3, 1), (166, .ireturn, 1)]
theorem ck_mo_reckonJudge : rk_chk prog_5_method_20_code kc_mo_reckonJudge = true := by decide +kernel
theorem ww_mo_reckonJudge : Cond.code yn_mo_reckonJudge prog_5_method_20_code 7 (some .boolean) ∈ lw_tbl ∧ Cond.initialized yn_mo_reckonJudge.cls ∈ lw_tbl ∧ Cond.instanceMethod yn_mo_reckonJudge ∈ lw_tbl ∧ Cond.selects "OrdinalRinkModel" yn_mo_reckonJudge yn_mo_reckonJudge ∈ lw_tbl := ⟨List.mem_of_getElem? (i := 1032) (by decide +kernel), List.mem_of_getElem? (i := 58) (by decide +kernel), List.mem_of_getElem? (i := 1031) (by decide +kernel), List.mem_of_getElem? (i := 32) (by decide +kernel)⟩
def yn_mo_reckonSkater : MethodName := ⟨"OrdinalRinkModel", "reckonSkater", "(II)V"⟩
def kc_mo_reckonSkater : List (Nat × Jvm.ClassFile.Instr × Nat) := [(0, .aload_n 0, 1), (1, .iload_n 1, 1), (2, .invokevirtual 86, 3), (5, .istore_n 3, 1), (6, .iconst 0, 1), (7, .istore 4, 2), (9, .iconst 0, 1), (10, .istore 5, 2), (12, .iconst 2, 1), (13, .iload 5, 2), (15, .imul, 1), (16, .iload_n 3, 1), (17, .if_icmp .gt 73, 3), (20, .iinc 4 1, 3), (23, .iconst 0, 1), (24, .istore 5, 2), (26, .iconst 0, 1), (27, .istore 6, 2), (29, .iload 6, 2), (31, .aload_n 0, 1), (32, .getfield 13, 3), (35, .if_icmp .ge 52, 3), (38, .aload_n 0, 1), (39, .getfield 30, 3), (42, .bipush 9, 2), (44, .iload_n 1, 1), (45, .imul, 1), (46, .iload 6, 2), (48, .iadd, 1), (49, .baload, 1), (50, .ifCond .ne 27, 3), (53, .aload_n 0, 1), (54, .getfield 45, 3), (57, .bipush 10, 2), (59, .iload 6, 2), (61, .imul, 1), (62, .iload_n 2, 1), (63, .iadd, 1), (64, .iaload, 1), (65, .iload 4, 2), (67, .if_icmp .gt 10, 3), (70, .iload 5, 2), (72, .iconst 1, 1), (73, .iadd, 1), (74, .goto 5, 3), (77, .iload 5, 2), (79, .istore 5, 2), (81, .iinc 6 1, 3), (84, .goto (-55), 3), (87, .goto (-75), 3), (90, .iconst 0, 1), (91, .istore 6, 2), (93, .iconst 0, 1), (94, .istore 7, 2), (96, .iconst 0, 1), (97, .istore 8, 2), (99, .iload 8, 2), (101, .aload_n 0, 1), (102, .getfield 13, 3), (105, .if_icmp .ge 68, 3), (108, .aload_n 0, 1), (109, .getfield 30, 3), (112, .bipush 9, 2), (114, .iload_n 1, 1), (115, .imul, 1), (116, .iload 8, 2), (118, .iadd, 1), (119, .baload, 1), (120, .ifCond .eq 7, 3), (123, .iconst 0, 1), (124, .goto 15, 3), (127, .aload_n 0, 1), (128, .getfield 45, 3), (131, .bipush 10, 2), (133, .iload 8, 2), (135, .imul, 1), (136, .iload_n 2, 1), (137, .iadd, 1), (138, .iaload, 1), (139, .istore 9, 2), (141, .iload 9, 2), (143, .iload 4, 2), (145, .if_icmp .gt 11, 3), (148, .iload 6, 2), (150, .iload 9, 2), (152, .iadd, 1), (153, .goto 5, 3), (156, .iload 6, 2), (158, .istore 6, 2), (160, .iload 7, 2), (162, .iload 9, 2), (164, .iadd, 1), (165, .istore 7, 2), (167, .iinc 8 1, 3), (170, .goto (-71), 3), (173, .aload_n 0, 1), (174, .getfield 48, 3), (177, .iconst 4, 1), (178, .iload_n 2, 1), (179, .imul, 1), (180, .iload 4, 2), (182, .iastore, 1), (183, .aload_n 0, 1), (184, .getfield 48, 3), (187, .iconst 4, 1), (188, .iload_n 2, 1), (189, .imul, 1), (190, .iconst 1, 1), (191, .iadd, 1), (192, .iload 5, 2), (194, .iastore, 1), (195, .aload_n 0, 1), (196, .getfield 48, 3), (199, .iconst 4, 1), (200, .iload_n 2, 1), (201, .imul, 1), (202, .iconst 2, 1), (203, .iadd, 1), (204, .iload 6, 2), (206, .iastore, 1), (207, .aload_n 0, 1), (208, .getfield 48, 3), (211, .iconst 4, 1), (212, .iload_n 2, 1), (213, .imul, 1), (214, .iconst 3, 1), (215, .iadd, 1), (216, .iload 7, 2), (218, .iastore, 1), (219, .return_, 1)]
theorem ck_mo_reckonSkater : rk_chk prog_5_method_21_code kc_mo_reckonSkater = true := by decide +kernel
theorem ww_mo_reckonSkater : Cond.code yn_mo_reckonSkater prog_5_method_21_code 10 none ∈ lw_tbl ∧ Cond.initialized yn_mo_reckonSkater.cls ∈ lw_tbl ∧ Cond.instanceMethod yn_mo_reckonSkater ∈ lw_tbl ∧ Cond.selects "OrdinalRinkModel" yn_mo_reckonSkater yn_mo_reckonSkater ∈ lw_tbl := ⟨List.mem_of_getElem? (i := 1056) (by decide +kernel), List.mem_of_getElem? (i := 58) (by decide +kernel), List.mem_of_getElem? (i := 1055) (by decide +kernel), List.mem_of_getElem? (i := 37) (by decide +kernel)⟩
def yn_mo_reckon : MethodName := ⟨"OrdinalRinkModel", "reckon", "(I)Z"⟩
def kc_mo_reckon : List (Nat × Jvm.ClassFile.Instr × Nat) := [(0, .iconst 1, 1), (1, .istore_n 2, 1), (2, .iconst 0, 1), (3, .istore_n 3, 1), (4, .iload_n 3, 1), (5, .aload_n 0, 1), (6, .getfield 13, 3), (9, .if_icmp .ge 46, 3), (12, .aload_n 0, 1), (13, .iload_n 1, 1), (14, .iload_n 3, 1), (15, .invokevirtual 102, 3), (18, .istore 4, 2), (20, .iload_n 2, 1), (21, .ifCond .eq 26, 3), (24, .iload 4, 2), (26, .ifCond .ne 17, 3), (29, .aload_n 0, 1), (30, .getfield 30, 3), (33, .bipush 9, 2), (35, .iload_n 1, 1), (36, .imul, 1), (37, .iload_n 3, 1), (38, .iadd, 1), (39, .baload, 1), (40, .ifCond .eq 7, 3), (43, .iconst 1, 1), (44, .goto 4, 3), (47, .iconst 0, 1), (48, .istore_n 2, 1), (49, .iinc 3 1, 3), (52, .goto (-48), 3), (55, .iconst 0, 1), (56, .istore_n 3, 1), (57, .iconst 0, 1), (58, .istore 4, 2), (60, .iload 4, 2), (62, .aload_n 0, 1), (63, .getfield 7, 3), (66, .if_icmp .ge 32, 3), (69, .iload_n 2, 1), (70, .ifCond .eq 28, 3), (73, .aload_n 0, 1), (74, .iload_n 1, 1), (75, .iload 4, 2), (77, .invokevirtual 94, 3), (80, .ifCond .eq 12, 3), (83, .iconst 1, 1), (84, .istore_n 3, 1), (85, .aload_n 0, 1), (86, .iload_n 1, 1), (87, .iload 4, 2), (89, .invokevirtual 105, 3), (92, .iinc 4 1, 3), (95, .goto (-35), 3), (98, .iload_n 2, 1), (99, .ifCond .eq 11, 3), (102, .iload_n 3, 1), (103, .ifCond .eq 7, 3), (106, .iconst 1, 1), (107, .goto 4, 3), (110, .iconst 0, 1), (111, .ireturn, 1)]
theorem ck_mo_reckon : rk_chk prog_5_method_22_code kc_mo_reckon = true := by decide +kernel
theorem ww_mo_reckon : Cond.code yn_mo_reckon prog_5_method_22_code 5 (some .boolean) ∈ lw_tbl ∧ Cond.initialized yn_mo_reckon.cls ∈ lw_tbl ∧ Cond.instanceMethod yn_mo_reckon ∈ lw_tbl ∧ Cond.selects "OrdinalRinkModel" yn_mo_reckon yn_mo_reckon ∈ lw_tbl := ⟨List.mem_of_getElem? (i := 1052) (by decide +kernel), List.mem_of_getElem? (i := 58) (by decide +kernel), List.mem_of_getElem? (i := 1051) (by decide +kernel), List.mem_of_getElem? (i := 36) (by decide +kernel)⟩
def yn_mo_parts : MethodName := ⟨"OrdinalRinkModel", "parts", "(II)I"⟩
def kc_mo_parts : List (Nat × Jvm.ClassFile.Instr × Nat) := [(0, .iconst 1, 1), (1, .istore_n 3, 1), (2, .iload_n 3, 1), (3, .iconst 5, 1), (4, .if_icmp .ge 38, 3), (7, .aload_n 0, 1), (8, .getfield 48, 3), (11, .iconst 4, 1), (12, .iload_n 1, 1), (13, .imul, 1), (14, .iload_n 3, 1), (15, .iadd, 1), (16, .iconst 1, 1), (17, .isub, 1), (18, .iaload, 1), (19, .aload_n 0, 1), (20, .getfield 48, 3), (23, .iconst 4, 1), (24, .iload_n 2, 1), (25, .imul, 1), (26, .iload_n 3, 1), (27, .iadd, 1), (28, .iconst 1, 1), (29, .isub, 1), (30, .iaload, 1), (31, .if_icmp .eq 5, 3), (34, .iload_n 3, 1), (35, .ireturn, 1), (36, .iinc 3 1, 3), (39, .goto (-37), 3), (42, .iconst 0, 1), (43, .ireturn, 1)]
theorem ck_mo_parts : rk_chk prog_5_method_23_code kc_mo_parts = true := by decide +kernel
theorem ww_mo_parts : Cond.code yn_mo_parts prog_5_method_23_code 4 (some .int) ∈ lw_tbl ∧ Cond.initialized yn_mo_parts.cls ∈ lw_tbl ∧ Cond.instanceMethod yn_mo_parts ∈ lw_tbl ∧ Cond.selects "OrdinalRinkModel" yn_mo_parts yn_mo_parts ∈ lw_tbl := ⟨List.mem_of_getElem? (i := 1072) (by decide +kernel), List.mem_of_getElem? (i := 58) (by decide +kernel), List.mem_of_getElem? (i := 1071) (by decide +kernel), List.mem_of_getElem? (i := 41) (by decide +kernel)⟩
def yn_mo_isBefore : MethodName := ⟨"OrdinalRinkModel", "isBefore", "(II)Z"⟩
def kc_mo_isBefore : List (Nat × Jvm.ClassFile.Instr × Nat) := [(0, .aload_n 0, 1), (1, .iload_n 1, 1), (2, .iload_n 2, 1), (3, .invokevirtual 109, 3), (6, .istore_n 3, 1), (7, .iload_n 3, 1), (8, .ifCond .ne 7, 3), (11, .iconst 0, 1), (12, .goto 15, 3), (15, .aload_n 0, 1), (16, .getfield 48, 3), (19, .iconst 4, 1), (20, .iload_n 1, 1), (21, .imul, 1), (22, .iload_n 3, 1), (23, .iadd, 1), (24, .iconst 1, 1), (25, .isub, 1), (26, .iaload, 1), (27, .istore 4, 2), (29, .iload_n 3, 1), (30, .ifCond .ne 7, 3), (33, .iconst 0, 1), (34, .goto 15, 3), (37, .aload_n 0, 1), (38, .getfield 48, 3), (41, .iconst 4, 1), (42, .iload_n 2, 1), (43, .imul, 1), (44, .iload_n 3, 1), (45, .iadd, 1), (46, .iconst 1, 1), (47, .isub, 1), (48, .iaload, 1), (49, .istore 5, 2), (51, .iload_n 3, 1), (52, .iconst 2, 1), (53, .if_icmp .ne 18, 3), (56, .iload 4, 2), (58, .iload 5, 2), (60, .if_icmp .le 7, 3), (63, .iconst 1, 1), (64, .goto 19, 3), (67, .iconst 0, 1), (68, .goto 15, 3), (71, .iload 4, 2), (73, .iload 5, 2), (75, .if_icmp .ge 7, 3), (78, .iconst 1, 1), (79, .goto 4, 3), (82, .iconst 0, 1), (83, .ireturn, 1)]
theorem ck_mo_isBefore : rk_chk prog_5_method_24_code kc_mo_isBefore = true := by decide +kernel
theorem ww_mo_isBefore : Cond.code yn_mo_isBefore prog_5_method_24_code 6 (some .boolean) ∈ lw_tbl ∧ Cond.initialized yn_mo_isBefore.cls ∈ lw_tbl ∧ Cond.instanceMethod yn_mo_isBefore ∈ lw_tbl ∧ Cond.selects "OrdinalRinkModel" yn_mo_isBefore yn_mo_isBefore ∈ lw_tbl := ⟨List.mem_of_getElem? (i := 1068) (by decide +kernel), List.mem_of_getElem? (i := 58) (by decide +kernel), List.mem_of_getElem? (i := 1067) (by decide +kernel), List.mem_of_getElem? (i := 40) (by decide +kernel)⟩
def yn_mo_placeOf : MethodName := ⟨"OrdinalRinkModel", "placeOf", "(II)I"⟩
def kc_mo_placeOf : List (Nat × Jvm.ClassFile.Instr × Nat) := [(0, .iconst 2, 1), (1, .istore_n 3, 1), (2, .iconst 0, 1), (3, .istore 4, 2), (5, .iload 4, 2), (7, .aload_n 0, 1), (8, .getfield 7, 3), (11, .if_icmp .ge 59, 3), (14, .aload_n 0, 1), (15, .iload_n 1, 1), (16, .iload 4, 2), (18, .invokevirtual 94, 3), (21, .ifCond .eq 43, 3), (24, .iload 4, 2), (26, .iload_n 2, 1), (27, .if_icmp .eq 37, 3), (30, .aload_n 0, 1), (31, .iload 4, 2), (33, .iload_n 2, 1), (34, .invokevirtual 112, 3), (37, .ifCond .eq 9, 3), (40, .iload_n 3, 1), (41, .iconst 2, 1), (42, .iadd, 1), (43, .goto 20, 3), (46, .aload_n 0, 1), (47, .iload 4, 2), (49, .iload_n 2, 1), (50, .invokevirtual 109, 3), (53, .ifCond .ne 9, 3), (56, .iload_n 3, 1), (57, .iconst 1, 1), (58, .iadd, 1), (59, .goto 4, 3), (62, .iload_n 3, 1), (63, .istore_n 3, 1), (64, .iinc 4 1, 3), (67, .goto (-62), 3), (70, .iload_n 3, 1), (71, .ireturn, 1)]
theorem ck_mo_placeOf : rk_chk prog_5_method_25_code kc_mo_placeOf = true := by decide +kernel
theorem ww_mo_placeOf : Cond.code yn_mo_placeOf prog_5_method_25_code 5 (some .int) ∈ lw_tbl ∧ Cond.initialized yn_mo_placeOf.cls ∈ lw_tbl ∧ Cond.instanceMethod yn_mo_placeOf ∈ lw_tbl ∧ Cond.selects "OrdinalRinkModel" yn_mo_placeOf yn_mo_placeOf ∈ lw_tbl := ⟨List.mem_of_getElem? (i := 1064) (by decide +kernel), List.mem_of_getElem? (i := 58) (by decide +kernel), List.mem_of_getElem? (i := 1063) (by decide +kernel), List.mem_of_getElem? (i := 39) (by decide +kernel)⟩
def yn_mo_ordinal : MethodName := ⟨"OrdinalRinkModel", "ordinal", "(III)I"⟩
def kc_mo_ordinal : List (Nat × Jvm.ClassFile.Instr × Nat) := [(0, .aload_n 0, 1), (1, .iload_n 1, 1), (2, .invokestatic 70, 3), (5, .ifCond .eq 23, 3), (8, .aload_n 0, 1), (9, .iload_n 2, 1), (10, .invokevirtual 73, 3), (13, .ifCond .eq 15, 3), (16, .aload_n 0, 1), (17, .iload_n 3, 1), (18, .invokevirtual 76, 3), (21, .ifCond .eq 7, 3), (24, .iconst 0, 1), (25, .goto 4, 3), (28, .iconst 1, 1), (29, .invokevirtual 66, 3), (32, .ifCond .eq 5, 3), (35, .iconst 0, 1), (36, .ireturn, 1), (37, .aload_n 0, 1), (38, .iload_n 1, 1), (39, .iload_n 2, 1), (40, .invokevirtual 102, 3), (43, .pop, 1), (44, .aload_n 0, 1), (45, .getfield 45, 3), (48, .bipush 10, 2), (50, .iload_n 2, 1), (51, .imul, 1), (52, .iload_n 3, 1), (53, .iadd, 1), (54, .iaload, 1), (55, .istore 4, 2), (57, .iload 4, 2), (59, .ifCond .ne 7, 3), (62, .iconst (-1), 1), (63, .goto 5, 3), (66, .iload 4, 2), (68, .ireturn, 1)]
theorem ck_mo_ordinal : rk_chk prog_5_method_26_code kc_mo_ordinal = true := by decide +kernel
theorem ww_mo_ordinal : Cond.code yn_mo_ordinal prog_5_method_26_code 5 (some .int) ∈ lw_tbl ∧ Cond.initialized yn_mo_ordinal.cls ∈ lw_tbl ∧ Cond.instanceMethod yn_mo_ordinal ∈ lw_tbl ∧ Cond.selects "OrdinalRinkModel" yn_mo_ordinal yn_mo_ordinal ∈ lw_tbl := ⟨List.mem_of_getElem? (i := 1028) (by decide +kernel), List.mem_of_getElem? (i := 58) (by decide +kernel), List.mem_of_getElem? (i := 1026) (by decide +kernel), List.mem_of_getElem? (i := 1027) (by decide +kernel)⟩
def yn_mo_result : MethodName := ⟨"OrdinalRinkModel", "result", "(III)I"⟩
def kc_mo_result : List (Nat × Jvm.ClassFile.Instr × Nat) := [(0, .iload_n 3, 1), (1, .iconst 4, 1), (2, .if_icmp .ge 16, 3), (5, .aload_n 0, 1), (6, .getfield 48, 3), (9, .iconst 4, 1), (10, .iload_n 2, 1), (11, .imul, 1), (12, .iload_n 3, 1), (13, .iadd, 1), (14, .iaload, 1), (15, .goto 9, 3), (18, .aload_n 0, 1), (19, .iload_n 1, 1), (20, .iload_n 2, 1), (21, .invokevirtual 115, 3), (24, .ireturn, 1)]
theorem ck_mo_result : rk_chk prog_5_method_27_code kc_mo_result = true := by decide +kernel
theorem ww_mo_result : Cond.code yn_mo_result prog_5_method_27_code 4 (some .int) ∈ lw_tbl ∧ Cond.initialized yn_mo_result.cls ∈ lw_tbl ∧ Cond.instanceMethod yn_mo_result ∈ lw_tbl ∧ Cond.selects "OrdinalRinkModel" yn_mo_result yn_mo_result ∈ lw_tbl := ⟨List.mem_of_getElem? (i := 1060) (by decide +kernel), List.mem_of_getElem? (i := 58) (by decide +kernel), List.mem_of_getElem? (i := 1059) (by decide +kernel), List.mem_of_getElem? (i := 38) (by decide +kernel)⟩
def yn_mo_placing : MethodName := ⟨"OrdinalRinkModel", "placing", "(III)I"⟩
def kc_mo_placing : List (Nat × Jvm.ClassFile.Instr × Nat) := [(0, .aload_n 0, 1), (1, .iload_n 1, 1), (2, .invokestatic 70, 3), (5, .ifCond .eq 24, 3), (8, .aload_n 0, 1), (9, .iload_n 2, 1), (10, .invokevirtual 76, 3), (13, .ifCond .eq 16, 3), (16, .iload_n 3, 1), (17, .ifCond .lt 12, 3), (20, .iload_n 3, 1), (21, .iconst 4, 1), (22, .if_icmp .gt 7, 3), (25, .iconst 0, 1), (26, .goto 4, 3), (29, .iconst 1, 1), (30, .invokevirtual 66, 3), (33, .ifCond .eq 5, 3), (36, .iconst 0, 1), (37, .ireturn, 1), (38, .aload_n 0, 1), (39, .iload_n 1, 1), (40, .invokevirtual 118, 3), (43, .ifCond .eq 12, 3), (46, .aload_n 0, 1), (47, .iload_n 1, 1), (48, .iload_n 2, 1), (49, .invokevirtual 94, 3), (52, .ifCond .ne 7, 3), (55, .iconst (-1), 1), (56, .goto 10, 3), (59, .aload_n 0, 1), (60, .iload_n 1, 1), (61, .iload_n 2, 1), (62, .iload_n 3, 1), (63, .invokevirtual 121, 3), (66, .ireturn, 1)]
theorem ck_mo_placing : rk_chk prog_5_method_28_code kc_mo_placing = true := by decide +kernel
theorem ww_mo_placing : Cond.code yn_mo_placing prog_5_method_28_code 4 (some .int) ∈ lw_tbl ∧ Cond.initialized yn_mo_placing.cls ∈ lw_tbl ∧ Cond.instanceMethod yn_mo_placing ∈ lw_tbl ∧ Cond.selects "OrdinalRinkModel" yn_mo_placing yn_mo_placing ∈ lw_tbl := ⟨List.mem_of_getElem? (i := 1048) (by decide +kernel), List.mem_of_getElem? (i := 58) (by decide +kernel), List.mem_of_getElem? (i := 1046) (by decide +kernel), List.mem_of_getElem? (i := 1047) (by decide +kernel)⟩
def yn_mo_step : MethodName := ⟨"OrdinalRinkModel", "step", "(III)I"⟩
def kc_mo_step : List (Nat × Jvm.ClassFile.Instr × Nat) := [(0, .aload_n 0, 1), (1, .iload_n 1, 1), (2, .invokestatic 70, 3), (5, .ifCond .eq 23, 3), (8, .aload_n 0, 1), (9, .iload_n 2, 1), (10, .invokevirtual 76, 3), (13, .ifCond .eq 15, 3), (16, .aload_n 0, 1), (17, .iload_n 3, 1), (18, .invokevirtual 76, 3), (21, .ifCond .eq 7, 3), (24, .iconst 0, 1), (25, .goto 4, 3), (28, .iconst 1, 1), (29, .invokevirtual 66, 3), (32, .ifCond .eq 5, 3), (35, .iconst 0, 1), (36, .ireturn, 1), (37, .aload_n 0, 1), (38, .iload_n 1, 1), (39, .invokevirtual 118, 3), (42, .ifCond .eq 21, 3), (45, .aload_n 0, 1), (46, .iload_n 1, 1), (47, .iload_n 2, 1), (48, .invokevirtual 94, 3), (51, .ifCond .eq 12, 3), (54, .aload_n 0, 1), (55, .iload_n 1, 1), (56, .iload_n 3, 1), (57, .invokevirtual 94, 3), (60, .ifCond .ne 7, 3), (63, .iconst (-1), 1), (64, .goto 9, 3), (67, .aload_n 0, 1), (68, .iload_n 2, 1), (69, .iload_n 3, 1), (70, .invokevirtual 109, 3), (73, .ireturn, 1)]
theorem ck_mo_step : rk_chk prog_5_method_29_code kc_mo_step = true := by decide +kernel
theorem ww_mo_step : Cond.code yn_mo_step prog_5_method_29_code 4 (some .int) ∈ lw_tbl ∧ Cond.initialized yn_mo_step.cls ∈ lw_tbl ∧ Cond.instanceMethod yn_mo_step ∈ lw_tbl ∧ Cond.selects "OrdinalRinkModel" yn_mo_step yn_mo_step ∈ lw_tbl := ⟨List.mem_of_getElem? (i := 1076) (by decide +kernel), List.mem_of_getElem? (i := 58) (by decide +kernel), List.mem_of_getElem? (i := 1074) (by decide +kernel), List.mem_of_getElem? (i := 1075) (by decide +kernel)⟩
def yn_mo_leastSum : MethodName := ⟨"OrdinalRinkModel", "leastSum", "(IIII)I"⟩
def kc_mo_leastSum : List (Nat × Jvm.ClassFile.Instr × Nat) := [(0, .iconst 0, 1), (1, .istore 5, 2), (3, .iload 5, 2), (5, .bipush 120, 2), (7, .if_icmp .gt 86, 3), (10, .iload 5, 2), (12, .bipush 60, 2), (14, .if_icmp .le 11, 3), (17, .iload 5, 2), (19, .bipush 60, 2), (21, .isub, 1), (22, .goto 4, 3), (25, .iconst 0, 1), (26, .istore 6, 2), (28, .iload 6, 2), (30, .bipush 60, 2), (32, .if_icmp .gt 55, 3), (35, .iload 6, 2), (37, .iload 5, 2), (39, .if_icmp .gt 48, 3), (42, .aload_n 0, 1), (43, .iload_n 3, 1), (44, .iconst 1, 1), (45, .iload 6, 2), (47, .iload 5, 2), (49, .iload 6, 2), (51, .isub, 1), (52, .invokevirtual 82, 3), (55, .aload_n 0, 1), (56, .iload_n 1, 1), (57, .invokevirtual 118, 3), (60, .ifCond .ne 5, 3), (63, .iconst (-1), 1), (64, .ireturn, 1), (65, .aload_n 0, 1), (66, .iload_n 1, 1), (67, .iload_n 2, 1), (68, .invokevirtual 115, 3), (71, .iconst 2, 1), (72, .iload 4, 2), (74, .imul, 1), (75, .if_icmp .gt 6, 3), (78, .iload 5, 2), (80, .ireturn, 1), (81, .iinc 6 1, 3), (84, .goto (-56), 3), (87, .iinc 5 1, 3), (90, .goto (-87), 3), (93, .iconst (-1), 1), (94, .ireturn, 1)]
theorem ck_mo_leastSum : rk_chk prog_5_method_30_code kc_mo_leastSum = true := by decide +kernel
theorem ww_mo_leastSum : Cond.code yn_mo_leastSum prog_5_method_30_code 7 (some .int) ∈ lw_tbl ∧ Cond.initialized yn_mo_leastSum.cls ∈ lw_tbl ∧ Cond.instanceMethod yn_mo_leastSum ∈ lw_tbl ∧ Cond.selects "OrdinalRinkModel" yn_mo_leastSum yn_mo_leastSum ∈ lw_tbl := ⟨List.mem_of_getElem? (i := 1084) (by decide +kernel), List.mem_of_getElem? (i := 58) (by decide +kernel), List.mem_of_getElem? (i := 1083) (by decide +kernel), List.mem_of_getElem? (i := 42) (by decide +kernel)⟩
def yn_mo_needed : MethodName := ⟨"OrdinalRinkModel", "needed", "(III)I"⟩
def kc_mo_needed : List (Nat × Jvm.ClassFile.Instr × Nat) := [(0, .iload_n 1, 1), (1, .invokestatic 70, 3), (4, .ifCond .eq 15, 3), (7, .aload_n 0, 1), (8, .iload_n 2, 1), (9, .invokevirtual 76, 3), (12, .ifCond .eq 7, 3), (15, .iconst 1, 1), (16, .goto 4, 3), (19, .iconst 0, 1), (20, .istore 4, 2), (22, .aload_n 0, 1), (23, .iload 4, 2), (25, .ifCond .ne 7, 3), (28, .iconst 1, 1), (29, .goto 19, 3), (32, .iload_n 3, 1), (33, .iconst 1, 1), (34, .if_icmp .lt 9, 3), (37, .iload_n 3, 1), (38, .bipush 10, 2), (40, .if_icmp .le 7, 3), (43, .iconst 2, 1), (44, .goto 4, 3), (47, .iconst 0, 1), (48, .invokevirtual 66, 3), (51, .ifCond .eq 5, 3), (54, .iconst 0, 1), (55, .ireturn, 1), (56, .aload_n 0, 1), (57, .iload_n 1, 1), (58, .iload_n 2, 1), (59, .invokevirtual 94, 3), (62, .ifCond .ne 5, 3), (65, .iconst (-1), 1), (66, .ireturn, 1), (67, .aload_n 0, 1), (68, .getfield 13, 3), (71, .iconst 1, 1), (72, .isub, 1), (73, .istore 5, 2), (75, .aload_n 0, 1), (76, .getfield 30, 3), (79, .bipush 9, 2), (81, .iload_n 1, 1), (82, .imul, 1), (83, .iload 5, 2), (85, .iadd, 1), (86, .baload, 1), (87, .ifCond .eq 9, 3), (90, .iinc 5 (-1), 3), (93, .goto (-18), 3), (96, .bipush 10, 2), (98, .bipush 9, 2), (100, .iload_n 1, 1), (101, .imul, 1), (102, .iload 5, 2), (104, .iadd, 1), (105, .imul, 1), (106, .iload_n 2, 1), (107, .iadd, 1), (108, .istore 6, 2), (110, .aload_n 0, 1), (111, .getfield 16, 3), (114, .iload 6, 2), (116, .baload, 1), (117, .istore 7, 2), (119, .aload_n 0, 1), (120, .getfield 20, 3), (123, .iload 6, 2), (125, .iaload, 1), (126, .istore 8, 2), (128, .aload_n 0, 1), (129, .getfield 24, 3), (132, .iload 6, 2), (134, .iaload, 1), (135, .istore 9, 2), (137, .aload_n 0, 1), (138, .iload_n 1, 1), (139, .iload_n 2, 1), (140, .iload 6, 2), (142, .iload_n 3, 1), (143, .invokevirtual 125, 3), (146, .istore 10, 2), (148, .aload_n 0, 1), (149, .iload 6, 2), (151, .iload 7, 2), (153, .iload 8, 2), (155, .iload 9, 2), (157, .invokevirtual 82, 3), (160, .iload 10, 2), (162, .ireturn, 1)]
theorem ck_mo_needed : rk_chk prog_5_method_31_code kc_mo_needed = true := by decide +kernel
theorem ww_mo_needed : Cond.code yn_mo_needed prog_5_method_31_code 11 (some .int) ∈ lw_tbl ∧ Cond.initialized yn_mo_needed.cls ∈ lw_tbl ∧ Cond.instanceMethod yn_mo_needed ∈ lw_tbl ∧ Cond.selects "OrdinalRinkModel" yn_mo_needed yn_mo_needed ∈ lw_tbl := ⟨List.mem_of_getElem? (i := 1080) (by decide +kernel), List.mem_of_getElem? (i := 58) (by decide +kernel), List.mem_of_getElem? (i := 1078) (by decide +kernel), List.mem_of_getElem? (i := 1079) (by decide +kernel)⟩
def yn_mo_publish : MethodName := ⟨"OrdinalRinkModel", "publish", "(I)I"⟩
def kc_mo_publish : List (Nat × Jvm.ClassFile.Instr × Nat) := [(0, .aload_n 0, 1), (1, .iload_n 1, 1), (2, .invokestatic 70, 3), (5, .ifCond .ne 7, 3), (8, .iconst 1, 1), (9, .goto 25, 3), (12, .aload_n 0, 1), (13, .getfield 39, 3), (16, .iload_n 1, 1), (17, .baload, 1), (18, .ifCond .ne 11, 3), (21, .aload_n 0, 1), (22, .iload_n 1, 1), (23, .invokevirtual 118, 3), (26, .ifCond .ne 7, 3), (29, .iconst 2, 1), (30, .goto 4, 3), (33, .iconst 0, 1), (34, .invokevirtual 66, 3), (37, .ifCond .eq 5, 3), (40, .iconst 0, 1), (41, .ireturn, 1), (42, .aload_n 0, 1), (43, .getfield 39, 3), (46, .iload_n 1, 1), (47, .iconst 1, 1), (48, .bastore, 1), (49, .iconst 0, 1), (50, .istore_n 2, 1), (51, .iconst 0, 1), (52, .istore_n 3, 1), (53, .iload_n 3, 1), (54, .aload_n 0, 1), (55, .getfield 7, 3), (58, .if_icmp .ge 26, 3), (61, .aload_n 0, 1), (62, .iload_n 1, 1), (63, .iload_n 3, 1), (64, .invokevirtual 94, 3), (67, .ifCond .eq 9, 3), (70, .iload_n 2, 1), (71, .iconst 1, 1), (72, .iadd, 1), (73, .goto 4, 3), (76, .iload_n 2, 1), (77, .istore_n 2, 1), (78, .iinc 3 1, 3), (81, .goto (-28), 3), (84, .iload_n 2, 1), (85, .ireturn, 1)]
theorem ck_mo_publish : rk_chk prog_5_method_32_code kc_mo_publish = true := by decide +kernel
theorem ww_mo_publish : Cond.code yn_mo_publish prog_5_method_32_code 4 (some .int) ∈ lw_tbl ∧ Cond.initialized yn_mo_publish.cls ∈ lw_tbl ∧ Cond.instanceMethod yn_mo_publish ∈ lw_tbl ∧ Cond.selects "OrdinalRinkModel" yn_mo_publish yn_mo_publish ∈ lw_tbl := ⟨List.mem_of_getElem? (i := 1088) (by decide +kernel), List.mem_of_getElem? (i := 58) (by decide +kernel), List.mem_of_getElem? (i := 1086) (by decide +kernel), List.mem_of_getElem? (i := 1087) (by decide +kernel)⟩
def yn_mo_publishedPlace : MethodName := ⟨"OrdinalRinkModel", "publishedPlace", "(II)I"⟩
def kc_mo_publishedPlace : List (Nat × Jvm.ClassFile.Instr × Nat) := [(0, .aload_n 0, 1), (1, .getfield 39, 3), (4, .iload_n 1, 1), (5, .baload, 1), (6, .ifCond .eq 12, 3), (9, .aload_n 0, 1), (10, .iload_n 1, 1), (11, .iload_n 2, 1), (12, .invokevirtual 94, 3), (15, .ifCond .ne 5, 3), (18, .iconst 0, 1), (19, .ireturn, 1), (20, .aload_n 0, 1), (21, .iload_n 1, 1), (22, .invokevirtual 118, 3), (25, .pop, 1), (26, .aload_n 0, 1), (27, .iload_n 1, 1), (28, .iload_n 2, 1), (29, .invokevirtual 115, 3), (32, .ireturn, 1)]
theorem ck_mo_publishedPlace : rk_chk prog_5_method_33_code kc_mo_publishedPlace = true := by decide +kernel
theorem ww_mo_publishedPlace : Cond.code yn_mo_publishedPlace prog_5_method_33_code 3 (some .int) ∈ lw_tbl ∧ Cond.initialized yn_mo_publishedPlace.cls ∈ lw_tbl ∧ Cond.instanceMethod yn_mo_publishedPlace ∈ lw_tbl ∧ Cond.selects "OrdinalRinkModel" yn_mo_publishedPlace yn_mo_publishedPlace ∈ lw_tbl := ⟨List.mem_of_getElem? (i := 1100) (by decide +kernel), List.mem_of_getElem? (i := 58) (by decide +kernel), List.mem_of_getElem? (i := 1099) (by decide +kernel), List.mem_of_getElem? (i := 44) (by decide +kernel)⟩
def yn_mo_started : MethodName := ⟨"OrdinalRinkModel", "started", "(I)I"⟩
def kc_mo_started : List (Nat × Jvm.ClassFile.Instr × Nat) := [(0, .iconst 0, 1), (1, .istore_n 2, 1), (2, .iconst 0, 1), (3, .istore_n 3, 1), (4, .iload_n 3, 1), (5, .iconst 3, 1), (6, .if_icmp .ge 35, 3), (9, .aload_n 0, 1), (10, .getfield 39, 3), (13, .iload_n 3, 1), (14, .baload, 1), (15, .ifCond .eq 18, 3), (18, .aload_n 0, 1), (19, .iload_n 3, 1), (20, .iload_n 1, 1), (21, .invokevirtual 94, 3), (24, .ifCond .eq 9, 3), (27, .iload_n 2, 1), (28, .iconst 1, 1), (29, .iadd, 1), (30, .goto 4, 3), (33, .iload_n 2, 1), (34, .istore_n 2, 1), (35, .iinc 3 1, 3), (38, .goto (-34), 3), (41, .iload_n 2, 1), (42, .ireturn, 1)]
theorem ck_mo_started : rk_chk prog_5_method_34_code kc_mo_started = true := by decide +kernel
theorem ww_mo_started : Cond.code yn_mo_started prog_5_method_34_code 4 (some .int) ∈ lw_tbl ∧ Cond.initialized yn_mo_started.cls ∈ lw_tbl ∧ Cond.instanceMethod yn_mo_started ∈ lw_tbl ∧ Cond.selects "OrdinalRinkModel" yn_mo_started yn_mo_started ∈ lw_tbl := ⟨List.mem_of_getElem? (i := 1112) (by decide +kernel), List.mem_of_getElem? (i := 58) (by decide +kernel), List.mem_of_getElem? (i := 1111) (by decide +kernel), List.mem_of_getElem? (i := 46) (by decide +kernel)⟩
def yn_mo_totalOf : MethodName := ⟨"OrdinalRinkModel", "totalOf", "(I)I"⟩
def kc_mo_totalOf : List (Nat × Jvm.ClassFile.Instr × Nat) := [(0, .iconst 0, 1), (1, .istore_n 2, 1), (2, .iconst 0, 1), (3, .istore_n 3, 1), (4, .iload_n 3, 1), (5, .iconst 3, 1), (6, .if_icmp .ge 25, 3), (9, .iload_n 2, 1), (10, .aload_n 0, 1), (11, .getfield 36, 3), (14, .iload_n 3, 1), (15, .iaload, 1), (16, .aload_n 0, 1), (17, .iload_n 3, 1), (18, .iload_n 1, 1), (19, .invokevirtual 129, 3), (22, .imul, 1), (23, .iadd, 1), (24, .istore_n 2, 1), (25, .iinc 3 1, 3), (28, .goto (-24), 3), (31, .iload_n 2, 1), (32, .ireturn, 1)]
theorem ck_mo_totalOf : rk_chk prog_5_method_35_code kc_mo_totalOf = true := by decide +kernel
theorem ww_mo_totalOf : Cond.code yn_mo_totalOf prog_5_method_35_code 4 (some .int) ∈ lw_tbl ∧ Cond.initialized yn_mo_totalOf.cls ∈ lw_tbl ∧ Cond.instanceMethod yn_mo_totalOf ∈ lw_tbl ∧ Cond.selects "OrdinalRinkModel" yn_mo_totalOf yn_mo_totalOf ∈ lw_tbl := ⟨List.mem_of_getElem? (i := 1096) (by decide +kernel), List.mem_of_getElem? (i := 58) (by decide +kernel), List.mem_of_getElem? (i := 1095) (by decide +kernel), List.mem_of_getElem? (i := 43) (by decide +kernel)⟩
def yn_mo_total : MethodName := ⟨"OrdinalRinkModel", "total", "(I)I"⟩
def kc_mo_total : List (Nat × Jvm.ClassFile.Instr × Nat) := [(0, .aload_n 0, 1), (1, .aload_n 0, 1), (2, .iload_n 1, 1), (3, .invokevirtual 76, 3), (6, .ifCond .eq 7, 3), (9, .iconst 0, 1), (10, .goto 4, 3), (13, .iconst 1, 1), (14, .invokevirtual 66, 3), (17, .ifCond .eq 7, 3), (20, .iconst 0, 1), (21, .goto 8, 3), (24, .aload_n 0, 1), (25, .iload_n 1, 1), (26, .invokevirtual 132, 3), (29, .ireturn, 1)]
theorem ck_mo_total : rk_chk prog_5_method_36_code kc_mo_total = true := by decide +kernel
theorem ww_mo_total : Cond.code yn_mo_total prog_5_method_36_code 2 (some .int) ∈ lw_tbl ∧ Cond.initialized yn_mo_total.cls ∈ lw_tbl ∧ Cond.instanceMethod yn_mo_total ∈ lw_tbl ∧ Cond.selects "OrdinalRinkModel" yn_mo_total yn_mo_total ∈ lw_tbl := ⟨List.mem_of_getElem? (i := 1092) (by decide +kernel), List.mem_of_getElem? (i := 58) (by decide +kernel), List.mem_of_getElem? (i := 1090) (by decide +kernel), List.mem_of_getElem? (i := 1091) (by decide +kernel)⟩
def yn_mo_ranksBefore : MethodName := ⟨"OrdinalRinkModel", "ranksBefore", "(II)Z"⟩
def kc_mo_ranksBefore : List (Nat × Jvm.ClassFile.Instr × Nat) := [(0, .aload_n 0, 1), (1, .iload_n 1, 1), (2, .invokevirtual 135, 3), (5, .aload_n 0, 1), (6, .iload_n 2, 1), (7, .invokevirtual 135, 3), (10, .if_icmp .eq 22, 3), (13, .aload_n 0, 1), (14, .iload_n 1, 1), (15, .invokevirtual 135, 3), (18, .aload_n 0, 1), (19, .iload_n 2, 1), (20, .invokevirtual 135, 3), (23, .if_icmp .le 7, 3), (26, .iconst 1, 1), (27, .goto 4, 3), (30, .iconst 0, 1), (31, .ireturn, 1), (32, .aload_n 0, 1), (33, .iload_n 1, 1), (34, .invokevirtual 132, 3), (37, .istore_n 3, 1), (38, .aload_n 0, 1), (39, .iload_n 2, 1), (40, .invokevirtual 132, 3), (43, .istore 4, 2), (45, .iload_n 3, 1), (46, .iload 4, 2), (48, .if_icmp .eq 15, 3), (51, .iload_n 3, 1), (52, .iload 4, 2), (54, .if_icmp .ge 7, 3), (57, .iconst 1, 1), (58, .goto 4, 3), (61, .iconst 0, 1), (62, .ireturn, 1), (63, .iconst (-1), 1), (64, .istore 5, 2), (66, .iconst 0, 1), (67, .istore 6, 2), (69, .iload 6, 2), (71, .iconst 3, 1), (72, .if_icmp .ge 39, 3), (75, .aload_n 0, 1), (76, .getfield 39, 3), (79, .iload 6, 2), (81, .baload, 1), (82, .ifCond .eq 19, 3), (85, .aload_n 0, 1), (86, .getfield 33, 3), (89, .iload 6, 2), (91, .iaload, 1), (92, .iconst 1, 1), (93, .if_icmp .ne 8, 3), (96, .iload 6, 2), (98, .goto 5, 3), (101, .iload 5, 2), (103, .istore 5, 2), (105, .iinc 6 1, 3), (108, .goto (-39), 3), (111, .iload 5, 2), (113, .ifCond .ge 5, 3), (116, .iconst 0, 1), (117, .ireturn, 1), (118, .aload_n 0, 1), (119, .iload 5, 2), (121, .iload_n 1, 1), (122, .invokevirtual 129, 3), (125, .istore 6, 2), (127, .aload_n 0, 1), (128, .iload 5, 2), (130, .iload_n 2, 1), (131, .invokevirtual 129, 3), (134, .istore 7, 2), (136, .iload 6, 2), (138, .ifCond .le 19, 3), (141, .iload 7, 2), (143, .ifCond .le 14, 3), (146, .iload 6, 2), (148, .iload 7, 2), (150, .if_icmp .ge 7, 3), (153, .iconst 1, 1), (154, .goto 4, 3), (157, .iconst 0, 1), (158, .ireturn, 1)]
theorem ck_mo_ranksBefore : rk_chk prog_5_method_37_code kc_mo_ranksBefore = true := by decide +kernel
theorem ww_mo_ranksBefore : Cond.code yn_mo_ranksBefore prog_5_method_37_code 8 (some .boolean) ∈ lw_tbl ∧ Cond.initialized yn_mo_ranksBefore.cls ∈ lw_tbl ∧ Cond.instanceMethod yn_mo_ranksBefore ∈ lw_tbl ∧ Cond.selects "OrdinalRinkModel" yn_mo_ranksBefore yn_mo_ranksBefore ∈ lw_tbl := ⟨List.mem_of_getElem? (i := 1108) (by decide +kernel), List.mem_of_getElem? (i := 58) (by decide +kernel), List.mem_of_getElem? (i := 1107) (by decide +kernel), List.mem_of_getElem? (i := 45) (by decide +kernel)⟩
def yn_mo_rank : MethodName := ⟨"OrdinalRinkModel", "rank", "(I)I"⟩
def kc_mo_rank : List (Nat × Jvm.ClassFile.Instr × Nat) := [(0, .aload_n 0, 1), (1, .aload_n 0, 1), (2, .iload_n 1, 1), (3, .invokevirtual 76, 3), (6, .ifCond .eq 7, 3), (9, .iconst 0, 1), (10, .goto 4, 3), (13, .iconst 1, 1), (14, .invokevirtual 66, 3), (17, .ifCond .eq 5, 3), (20, .iconst 0, 1), (21, .ireturn, 1), (22, .aload_n 0, 1), (23, .getfield 39, 3), (26, .iconst 0, 1), (27, .baload, 1), (28, .ifCond .ne 23, 3), (31, .aload_n 0, 1), (32, .getfield 39, 3), (35, .iconst 1, 1), (36, .baload, 1), (37, .ifCond .ne 14, 3), (40, .aload_n 0, 1), (41, .getfield 39, 3), (44, .iconst 2, 1), (45, .baload, 1), (46, .ifCond .ne 5, 3), (49, .iconst (-1), 1), (50, .ireturn, 1), (51, .iconst 1, 1), (52, .istore_n 2, 1), (53, .iconst 0, 1), (54, .istore_n 3, 1), (55, .iload_n 3, 1), (56, .aload_n 0, 1), (57, .getfield 7, 3), (60, .if_icmp .ge 26, 3), (63, .aload_n 0, 1), (64, .iload_n 3, 1), (65, .iload_n 1, 1), (66, .invokevirtual 138, 3), (69, .ifCond .eq 9, 3), (72, .iload_n 2, 1), (73, .iconst 1, 1), (74, .iadd, 1), (75, .goto 4, 3), (78, .iload_n 2, 1), (79, .istore_n 2, 1), (80, .iinc 3 1, 3), (83, .goto (-28), 3), (86, .iload_n 2, 1), (87, .ireturn, 1)]
theorem ck_mo_rank : rk_chk prog_5_method_38_code kc_mo_rank = true := by decide +kernel
theorem ww_mo_rank : Cond.code yn_mo_rank prog_5_method_38_code 4 (some .int) ∈ lw_tbl ∧ Cond.initialized yn_mo_rank.cls ∈ lw_tbl ∧ Cond.instanceMethod yn_mo_rank ∈ lw_tbl ∧ Cond.selects "OrdinalRinkModel" yn_mo_rank yn_mo_rank ∈ lw_tbl := ⟨List.mem_of_getElem? (i := 1104) (by decide +kernel), List.mem_of_getElem? (i := 58) (by decide +kernel), List.mem_of_getElem? (i := 1102) (by decide +kernel), List.mem_of_getElem? (i := 1103) (by decide +kernel)⟩
def yn_mo_writeNumber : MethodName := ⟨"OrdinalRinkModel", "writeNumber", "(I)V"⟩
def kc_mo_writeNumber : List (Nat × Jvm.ClassFile.Instr × Nat) := [(0, .iconst 1, 1), (1, .istore_n 2, 1), (2, .iload_n 1, 1), (3, .iload_n 2, 1), (4, .idiv, 1), (5, .bipush 9, 2), (7, .if_icmp .le 11, 3), (10, .bipush 10, 2), (12, .iload_n 2, 1), (13, .imul, 1), (14, .istore_n 2, 1), (15, .goto (-13), 3), (18, .iload_n 2, 1), (19, .ifCond .le 39, 3), (22, .aload_n 0, 1), (23, .getfield 57, 3), (26, .aload_n 0, 1), (27, .getfield 141, 3), (30, .bipush 48, 2), (32, .iload_n 1, 1), (33, .iload_n 2, 1), (34, .idiv, 1), (35, .bipush 10, 2), (37, .irem, 1), (38, .iadd, 1), (39, .iastore, 1), (40, .aload_n 0, 1), (41, .dup, 1), (42, .getfield 141, 3), (45, .iconst 1, 1), (46, .iadd, 1), (47, .putfield 141, 3), (50, .iload_n 2, 1), (51, .bipush 10, 2), (53, .idiv, 1), (54, .istore_n 2, 1), (55, .goto (-37), 3), (58, .return_, 1)]
theorem ck_mo_writeNumber : rk_chk prog_5_method_39_code kc_mo_writeNumber = true := by decide +kernel
theorem ww_mo_writeNumber : Cond.code yn_mo_writeNumber prog_5_method_39_code 3 none ∈ lw_tbl ∧ Cond.initialized yn_mo_writeNumber.cls ∈ lw_tbl ∧ Cond.instanceMethod yn_mo_writeNumber ∈ lw_tbl ∧ Cond.selects "OrdinalRinkModel" yn_mo_writeNumber yn_mo_writeNumber ∈ lw_tbl := ⟨List.mem_of_getElem? (i := 1120) (by decide +kernel), List.mem_of_getElem? (i := 58) (by decide +kernel), List.mem_of_getElem? (i := 1119) (by decide +kernel), List.mem_of_getElem? (i := 47) (by decide +kernel)⟩
def yn_mo_proof : MethodName := ⟨"OrdinalRinkModel", "proof", "(II)I"⟩
def kc_mo_proof : List (Nat × Jvm.ClassFile.Instr × Nat) := [(0, .iload_n 1, 1), (1, .invokestatic 70, 3), (4, .ifCond .eq 15, 3), (7, .aload_n 0, 1), (8, .iload_n 2, 1), (9, .invokevirtual 76, 3), (12, .ifCond .eq 7, 3), (15, .iconst 1, 1), (16, .goto 4, 3), (19, .iconst 0, 1), (20, .istore_n 3, 1), (21, .aload_n 0, 1), (22, .iload_n 3, 1), (23, .ifCond .ne 7, 3), (26, .iconst 1, 1), (27, .goto 25, 3), (30, .aload_n 0, 1), (31, .iload_n 1, 1), (32, .invokevirtual 118, 3), (35, .ifCond .eq 12, 3), (38, .aload_n 0, 1), (39, .iload_n 1, 1), (40, .iload_n 2, 1), (41, .invokevirtual 94, 3), (44, .ifCond .ne 7, 3), (47, .iconst 2, 1), (48, .goto 4, 3), (51, .iconst 0, 1), (52, .invokevirtual 66, 3), (55, .ifCond .eq 5, 3), (58, .iconst 0, 1), (59, .ireturn, 1), (60, .aload_n 0, 1), (61, .iconst 0, 1), (62, .putfield 141, 3), (65, .aload_n 0, 1), (66, .iload_n 2, 1), (67, .invokevirtual 144, 3), (70, .iconst 0, 1), (71, .istore 4, 2), (73, .iload 4, 2), (75, .iconst 5, 1), (76, .if_icmp .ge 42, 3), (79, .aload_n 0, 1), (80, .getfield 57, 3), (83, .aload_n 0, 1), (84, .getfield 141, 3), (87, .bipush 32, 2), (89, .iastore, 1), (90, .aload_n 0, 1), (91, .dup, 1), (92, .getfield 141, 3), (95, .iconst 1, 1), (96, .iadd, 1), (97, .putfield 141, 3), (100, .aload_n 0, 1), (101, .aload_n 0, 1), (102, .iload_n 1, 1), (103, .iload_n 2, 1), (104, .iload 4, 2), (106, .invokevirtual 121, 3), (109, .invokevirtual 144, 3), (112, .iinc 4 1, 3), (115, .goto (-42), 3), (118, .aload_n 0, 1), (119, .getfield 141, 3), (122, .ireturn, 1)]
theorem ck_mo_proof : rk_chk prog_5_method_40_code kc_mo_proof = true := by decide +kernel
theorem ww_mo_proof : Cond.code yn_mo_proof prog_5_method_40_code 5 (some .int) ∈ lw_tbl ∧ Cond.initialized yn_mo_proof.cls ∈ lw_tbl ∧ Cond.instanceMethod yn_mo_proof ∈ lw_tbl ∧ Cond.selects "OrdinalRinkModel" yn_mo_proof yn_mo_proof ∈ lw_tbl := ⟨List.mem_of_getElem? (i := 1116) (by decide +kernel), List.mem_of_getElem? (i := 58) (by decide +kernel), List.mem_of_getElem? (i := 1114) (by decide +kernel), List.mem_of_getElem? (i := 1115) (by decide +kernel)⟩
def yn_mo_type : MethodName := ⟨"OrdinalRinkModel", "type", "(C)Z"⟩
def kc_mo_type : List (Nat × Jvm.ClassFile.Instr × Nat) := [(0, .aload_n 0, 1), (1, .iconst 0, 1), (2, .putfield 63, 3), (5, .iload_n 1, 1), (6, .bipush 32, 2), (8, .if_icmp .lt 18, 3), (11, .iload_n 1, 1), (12, .bipush 126, 2), (14, .if_icmp .gt 12, 3), (17, .aload_n 0, 1), (18, .getfield 148, 3), (21, .bipush 40, 2), (23, .if_icmp .ne 5, 3), (26, .iconst 0, 1), (27, .ireturn, 1), (28, .aload_n 0, 1), (29, .getfield 51, 3), (32, .aload_n 0, 1), (33, .getfield 148, 3), (36, .iload_n 1, 1), (37, .iastore, 1), (38, .aload_n 0, 1), (39, .dup, 1), (40, .getfield 148, 3), (43, .iconst 1, 1), (44, .iadd, 1), (45, .putfield 148, 3), (48, .iconst 1, 1), (49, .ireturn, 1)]
theorem ck_mo_type : rk_chk prog_5_method_41_code kc_mo_type = true := by decide +kernel
theorem ww_mo_type : Cond.code yn_mo_type prog_5_method_41_code 2 (some .boolean) ∈ lw_tbl ∧ Cond.initialized yn_mo_type.cls ∈ lw_tbl ∧ Cond.instanceMethod yn_mo_type ∈ lw_tbl ∧ Cond.selects "OrdinalRinkModel" yn_mo_type yn_mo_type ∈ lw_tbl := ⟨List.mem_of_getElem? (i := 1124) (by decide +kernel), List.mem_of_getElem? (i := 58) (by decide +kernel), List.mem_of_getElem? (i := 1122) (by decide +kernel), List.mem_of_getElem? (i := 1123) (by decide +kernel)⟩
def yn_mo_read : MethodName := ⟨"OrdinalRinkModel", "read", "(I)I"⟩
def kc_mo_read : List (Nat × Jvm.ClassFile.Instr × Nat) := [(0, .iconst 0, 1), (1, .istore_n 2, 1), (2, .iconst 0, 1), (3, .istore_n 3, 1), (4, .iconst 0, 1), (5, .istore 4, 2), (7, .iload 4, 2), (9, .iload_n 1, 1), (10, .if_icmp .ge 161, 3), (13, .aload_n 0, 1), (14, .getfield 51, 3), (17, .iload 4, 2), (19, .iaload, 1), (20, .bipush 48, 2), (22, .if_icmp .lt 19, 3), (25, .aload_n 0, 1), (26, .getfield 51, 3), (29, .iload 4, 2), (31, .iaload, 1), (32, .bipush 57, 2), (34, .if_icmp .gt 7, 3), (37, .iconst 1, 1), (38, .goto 4, 3), (41, .iconst 0, 1), (42, .istore 5, 2), (44, .iload 5, 2), (46, .ifCond .eq 25, 3), (49, .iload_n 3, 1), (50, .iconst 4, 1), (51, .if_icmp .ge 20, 3), (54, .iload_n 3, 1), (55, .ifCond .eq 12, 3), (58, .aload_n 0, 1), (59, .getfield 54, 3), (62, .iload_n 2, 1), (63, .iaload, 1), (64, .ifCond .le 7, 3), (67, .iconst 1, 1), (68, .goto 4, 3), (71, .iconst 0, 1), (72, .istore 6, 2), (74, .aload_n 0, 1), (75, .getfield 51, 3), (78, .iload 4, 2), (80, .iaload, 1), (81, .bipush 32, 2), (83, .if_icmp .ne 16, 3), (86, .iload_n 3, 1), (87, .ifCond .le 12, 3), (90, .iload_n 2, 1), (91, .iconst 5, 1), (92, .if_icmp .ge 7, 3), (95, .iconst 1, 1), (96, .goto 4, 3), (99, .iconst 0, 1), (100, .istore 7, 2), (102, .iload 6, 2), (104, .ifCond .ne 11, 3), (107, .iload 7, 2), (109, .ifCond .ne 6, 3), (112, .iload 4, 2), (114, .ireturn, 1), (115, .iload 7, 2), (117, .ifCond .eq 11, 3), (120, .iinc 2 1, 3), (123, .iconst 0, 1), (124, .istore_n 3, 1), (125, .goto 40, 3), (128, .aload_n 0, 1), (129, .getfield 54, 3), (132, .iload_n 2, 1), (133, .iload_n 3, 1), (134, .ifCond .ne 7, 3), (137, .iconst 0, 1), (138, .goto 12, 3), (141, .bipush 10, 2), (143, .aload_n 0, 1), (144, .getfield 54, 3), (147, .iload_n 2, 1), (148, .iaload, 1), (149, .imul, 1), (150, .aload_n 0, 1), (151, .getfield 51, 3), (154, .iload 4, 2), (156, .iaload, 1), (157, .iadd, 1), (158, .bipush 48, 2), (160, .isub, 1), (161, .iastore, 1), (162, .iinc 3 1, 3), (165, .iinc 4 1, 3), (168, .goto (-161), 3), (171, .iload_n 2, 1), (172, .iconst 5, 1), (173, .if_icmp .ne 11, 3), (176, .iload_n 3, 1), (177, .ifCond .le 7, 3), (180, .iconst (-1), 1), (181, .goto 4, 3), (184, .iload_n 1, 1), (185, .ireturn, 1)]
theorem ck_mo_read : rk_chk prog_5_method_42_code kc_mo_read = true := by decide +kernel
theorem ww_mo_read : Cond.code yn_mo_read prog_5_method_42_code 8 (some .int) ∈ lw_tbl ∧ Cond.initialized yn_mo_read.cls ∈ lw_tbl ∧ Cond.instanceMethod yn_mo_read ∈ lw_tbl ∧ Cond.selects "OrdinalRinkModel" yn_mo_read yn_mo_read ∈ lw_tbl := ⟨List.mem_of_getElem? (i := 1132) (by decide +kernel), List.mem_of_getElem? (i := 58) (by decide +kernel), List.mem_of_getElem? (i := 1131) (by decide +kernel), List.mem_of_getElem? (i := 48) (by decide +kernel)⟩
def yn_mo_check : MethodName := ⟨"OrdinalRinkModel", "check", "(I)I"⟩
def kc_mo_check : List (Nat × Jvm.ClassFile.Instr × Nat) := [(0, .aload_n 0, 1), (1, .iload_n 1, 1), (2, .invokestatic 70, 3), (5, .ifCond .eq 7, 3), (8, .iconst 0, 1), (9, .goto 4, 3), (12, .iconst 1, 1), (13, .invokevirtual 66, 3), (16, .ifCond .eq 5, 3), (19, .iconst 0, 1), (20, .ireturn, 1), (21, .aload_n 0, 1), (22, .getfield 148, 3), (25, .istore_n 2, 1), (26, .aload_n 0, 1), (27, .iconst 0, 1), (28, .putfield 148, 3), (31, .aload_n 0, 1), (32, .iload_n 2, 1), (33, .invokevirtual 151, 3), (36, .istore_n 3, 1), (37, .iload_n 3, 1), (38, .ifCond .lt 7, 3), (41, .iconst (-1), 1), (42, .iload_n 3, 1), (43, .isub, 1), (44, .ireturn, 1), (45, .aload_n 0, 1), (46, .getfield 54, 3), (49, .iconst 0, 1), (50, .iaload, 1), (51, .istore 4, 2), (53, .aload_n 0, 1), (54, .iload 4, 2), (56, .invokevirtual 76, 3), (59, .ifCond .eq 21, 3), (62, .aload_n 0, 1), (63, .iload_n 1, 1), (64, .invokevirtual 118, 3), (67, .ifCond .eq 13, 3), (70, .aload_n 0, 1), (71, .iload_n 1, 1), (72, .iload 4, 2), (74, .invokevirtual 94, 3), (77, .ifCond .ne 5, 3), (80, .iconst 0, 1), (81, .ireturn, 1), (82, .iconst 1, 1), (83, .istore 5, 2), (85, .iconst 0, 1), (86, .istore 6, 2), (88, .iload 6, 2), (90, .iconst 5, 1), (91, .if_icmp .ge 42, 3), (94, .iload 5, 2), (96, .ifCond .eq 28, 3), (99, .aload_n 0, 1), (100, .getfield 54, 3), (103, .iconst 1, 1), (104, .iload 6, 2), (106, .iadd, 1), (107, .iaload, 1), (108, .aload_n 0, 1), (109, .iload_n 1, 1), (110, .iload 4, 2), (112, .iload 6, 2), (114, .invokevirtual 121, 3), (117, .if_icmp .ne 7, 3), (120, .iconst 1, 1), (121, .goto 4, 3), (124, .iconst 0, 1), (125, .istore 5, 2), (127, .iinc 6 1, 3), (130, .goto (-42), 3), (133, .iload 5, 2), (135, .ifCond .eq 7, 3), (138, .iconst 1, 1), (139, .goto 4, 3), (142, .iconst 0, 1), (143, .ireturn, 1)]
theorem ck_mo_check : rk_chk prog_5_method_43_code kc_mo_check = true := by decide +kernel
theorem ww_mo_check : Cond.code yn_mo_check prog_5_method_43_code 7 (some .int) ∈ lw_tbl ∧ Cond.initialized yn_mo_check.cls ∈ lw_tbl ∧ Cond.instanceMethod yn_mo_check ∈ lw_tbl ∧ Cond.selects "OrdinalRinkModel" yn_mo_check yn_mo_check ∈ lw_tbl := ⟨List.mem_of_getElem? (i := 1128) (by decide +kernel), List.mem_of_getElem? (i := 58) (by decide +kernel), List.mem_of_getElem? (i := 1126) (by decide +kernel), List.mem_of_getElem? (i := 1127) (by decide +kernel)⟩
def yn_mo_length : MethodName := ⟨"OrdinalRinkModel", "length", "()I"⟩
def kc_mo_length : List (Nat × Jvm.ClassFile.Instr × Nat) := [(0, .aload_n 0, 1), (1, .iconst 0, 1), (2, .putfield 63, 3), (5, .aload_n 0, 1), (6, .getfield 141, 3), (9, .ireturn, 1)]
theorem ck_mo_length : rk_chk prog_5_method_44_code kc_mo_length = true := by decide +kernel
theorem ww_mo_length : Cond.code yn_mo_length prog_5_method_44_code 1 (some .int) ∈ lw_tbl ∧ Cond.initialized yn_mo_length.cls ∈ lw_tbl ∧ Cond.instanceMethod yn_mo_length ∈ lw_tbl ∧ Cond.selects "OrdinalRinkModel" yn_mo_length yn_mo_length ∈ lw_tbl := ⟨List.mem_of_getElem? (i := 1136) (by decide +kernel), List.mem_of_getElem? (i := 58) (by decide +kernel), List.mem_of_getElem? (i := 1134) (by decide +kernel), List.mem_of_getElem? (i := 1135) (by decide +kernel)⟩
def yn_mo_charAt : MethodName := ⟨"OrdinalRinkModel", "charAt", "(I)C"⟩
def kc_mo_charAt : List (Nat × Jvm.ClassFile.Instr × Nat) := [(0, .aload_n 0, 1), (1, .iconst 0, 1), (2, .putfield 63, 3), (5, .iload_n 1, 1), (6, .ifCond .lt 11, 3), (9, .iload_n 1, 1), (10, .aload_n 0, 1), (11, .getfield 141, 3), (14, .if_icmp .lt 8, 3), (17, .bipush 32, 2), (19, .goto 10, 3), (22, .aload_n 0, 1), (23, .getfield 57, 3), (26, .iload_n 1, 1), (27, .iaload, 1), (28, .i2c, 1), (29, .ireturn, 1)]
theorem ck_mo_charAt : rk_chk prog_5_method_45_code kc_mo_charAt = true := by decide +kernel
theorem ww_mo_charAt : Cond.code yn_mo_charAt prog_5_method_45_code 2 (some .char) ∈ lw_tbl ∧ Cond.initialized yn_mo_charAt.cls ∈ lw_tbl ∧ Cond.instanceMethod yn_mo_charAt ∈ lw_tbl ∧ Cond.selects "OrdinalRinkModel" yn_mo_charAt yn_mo_charAt ∈ lw_tbl := ⟨List.mem_of_getElem? (i := 1140) (by decide +kernel), List.mem_of_getElem? (i := 58) (by decide +kernel), List.mem_of_getElem? (i := 1138) (by decide +kernel), List.mem_of_getElem? (i := 1139) (by decide +kernel)⟩
def ft_se : List (Nat × Nat × Nat × Int) := [(9, 2, 5, 5), (15, 2, 6, 6), (20, 2, 7, 7), (23, 2, 8, 8), (26, 2, 9, 9), (29, 2, 10, 10), (33, 2, 11, 11), (36, 2, 12, 12), (39, 2, 3, 3), (43, 2, 4, 4), (46, 2, 2, 2), (74, 2, 0, 0)]
theorem ftc_se : rk_ftc "OrdinalRink$Segment" ft_se = true := by decide +kernel
def yn_se_reopen : MethodName := ⟨"OrdinalRink$Segment", "reopen", "(II)V"⟩
def kc_se_reopen : List (Nat × Jvm.ClassFile.Instr × Nat) := [(0, .aload_n 0, 1), (1, .iload_n 1, 1), (2, .putfield 39, 3), (5, .aload_n 0, 1), (6, .iload_n 2, 1), (7, .putfield 43, 3), (10, .aload_n 0, 1), (11, .iconst 0, 1), (12, .putfield 46, 3), (15, .iconst 0, 1), (16, .istore_n 3, 1), (17, .iload_n 3, 1), (18, .bipush 10, 2), (20, .if_icmp .ge 25, 3), (23, .aload_n 0, 1), (24, .getfield 9, 3), (27, .iload_n 3, 1), (28, .iload_n 3, 1), (29, .iload_n 1, 1), (30, .if_icmp .ge 7, 3), (33, .iconst 1, 1), (34, .goto 4, 3), (37, .iconst 0, 1), (38, .bastore, 1), (39, .iinc 3 1, 3), (42, .goto (-25), 3), (45, .iconst 0, 1), (46, .istore_n 3, 1), (47, .iload_n 3, 1), (48, .bipush 9, 2), (50, .if_icmp .ge 36, 3), (53, .aload_n 0, 1), (54, .getfield 15, 3), (57, .iload_n 3, 1), (58, .iconst 0, 1), (59, .bastore, 1), (60, .aload_n 0, 1), (61, .getfield 20, 3), (64, .iload_n 3, 1), (65, .aaload, 1), (66, .iconst (-1), 1), (67, .invokestatic 50, 3), (70, .aload_n 0, 1), (71, .getfield 23, 3), (74, .iload_n 3, 1), (75, .aaload, 1), (76, .iconst (-1), 1), (77, .invokestatic 50, 3), (80, .iinc 3 1, 3), (83, .goto (-36), 3), (86, .aload_n 0, 1), (87, .getfield 26, 3), (90, .iconst 0, 1), (91, .aaload, 1), (92, .iconst 0, 1), (93, .invokestatic 50, 3), (96, .aload_n 0, 1), (97, .getfield 26, 3), (100, .iconst 1, 1), (101, .aaload, 1), (102, .iconst 0, 1), (103, .invokestatic 50, 3), (106, .return_, 1)]
theorem ck_se_reopen : rk_chk prog_3_method_2_code kc_se_reopen = true := by decide +kernel
theorem ww_se_reopen : Cond.code yn_se_reopen prog_3_method_2_code 4 none ∈ lw_tbl ∧ Cond.initialized yn_se_reopen.cls ∈ lw_tbl ∧ Cond.instanceMethod yn_se_reopen ∈ lw_tbl ∧ Cond.selects "OrdinalRink$Segment" yn_se_reopen yn_se_reopen ∈ lw_tbl := ⟨List.mem_of_getElem? (i := 188) (by decide +kernel), List.mem_of_getElem? (i := 56) (by decide +kernel), List.mem_of_getElem? (i := 186) (by decide +kernel), List.mem_of_getElem? (i := 187) (by decide +kernel)⟩
def yn_se_setMark : MethodName := ⟨"OrdinalRink$Segment", "setMark", "(IIII)V"⟩
def kc_se_setMark : List (Nat × Jvm.ClassFile.Instr × Nat) := [(0, .aload_n 0, 1), (1, .getfield 20, 3), (4, .iload_n 1, 1), (5, .aaload, 1), (6, .iload_n 2, 1), (7, .iload_n 3, 1), (8, .iastore, 1), (9, .aload_n 0, 1), (10, .getfield 23, 3), (13, .iload_n 1, 1), (14, .aaload, 1), (15, .iload_n 2, 1), (16, .iload 4, 2), (18, .iastore, 1), (19, .return_, 1)]
theorem ck_se_setMark : rk_chk prog_3_method_3_code kc_se_setMark = true := by decide +kernel
theorem ww_se_setMark : Cond.code yn_se_setMark prog_3_method_3_code 5 none ∈ lw_tbl ∧ Cond.initialized yn_se_setMark.cls ∈ lw_tbl ∧ Cond.instanceMethod yn_se_setMark ∈ lw_tbl ∧ Cond.selects "OrdinalRink$Segment" yn_se_setMark yn_se_setMark ∈ lw_tbl := ⟨List.mem_of_getElem? (i := 491) (by decide +kernel), List.mem_of_getElem? (i := 56) (by decide +kernel), List.mem_of_getElem? (i := 489) (by decide +kernel), List.mem_of_getElem? (i := 490) (by decide +kernel)⟩
def yn_se_replaceDeduction : MethodName := ⟨"OrdinalRink$Segment", "replaceDeduction", "(III)I"⟩
def kc_se_replaceDeduction : List (Nat × Jvm.ClassFile.Instr × Nat) := [(0, .aload_n 0, 1), (1, .getfield 26, 3), (4, .iload_n 1, 1), (5, .aaload, 1), (6, .iload_n 2, 1), (7, .iaload, 1), (8, .istore 4, 2), (10, .aload_n 0, 1), (11, .getfield 26, 3), (14, .iload_n 1, 1), (15, .aaload, 1), (16, .iload_n 2, 1), (17, .iload_n 3, 1), (18, .iastore, 1), (19, .iload 4, 2), (21, .ireturn, 1)]
theorem ck_se_replaceDeduction : rk_chk prog_3_method_4_code kc_se_replaceDeduction = true := by decide +kernel
theorem ww_se_replaceDeduction : Cond.code yn_se_replaceDeduction prog_3_method_4_code 5 (some .int) ∈ lw_tbl ∧ Cond.initialized yn_se_replaceDeduction.cls ∈ lw_tbl ∧ Cond.instanceMethod yn_se_replaceDeduction ∈ lw_tbl ∧ Cond.selects "OrdinalRink$Segment" yn_se_replaceDeduction yn_se_replaceDeduction ∈ lw_tbl := ⟨List.mem_of_getElem? (i := 503) (by decide +kernel), List.mem_of_getElem? (i := 56) (by decide +kernel), List.mem_of_getElem? (i := 501) (by decide +kernel), List.mem_of_getElem? (i := 502) (by decide +kernel)⟩
def yn_se_panelSize : MethodName := ⟨"OrdinalRink$Segment", "panelSize", "()I"⟩
def kc_se_panelSize : List (Nat × Jvm.ClassFile.Instr × Nat) := [(0, .iconst 0, 1), (1, .istore_n 1, 1), (2, .iconst 0, 1), (3, .istore_n 2, 1), (4, .iload_n 2, 1), (5, .aload_n 0, 1), (6, .getfield 43, 3), (9, .if_icmp .ge 21, 3), (12, .aload_n 0, 1), (13, .getfield 15, 3), (16, .iload_n 2, 1), (17, .baload, 1), (18, .ifCond .ne 6, 3), (21, .iinc 1 1, 3), (24, .iinc 2 1, 3), (27, .goto (-23), 3), (30, .iload_n 1, 1), (31, .ireturn, 1)]
theorem ck_se_panelSize : rk_chk prog_3_method_5_code kc_se_panelSize = true := by decide +kernel
theorem ww_se_panelSize : Cond.code yn_se_panelSize prog_3_method_5_code 3 (some .int) ∈ lw_tbl ∧ Cond.initialized yn_se_panelSize.cls ∈ lw_tbl ∧ Cond.instanceMethod yn_se_panelSize ∈ lw_tbl ∧ Cond.selects "OrdinalRink$Segment" yn_se_panelSize yn_se_panelSize ∈ lw_tbl := ⟨List.mem_of_getElem? (i := 514) (by decide +kernel), List.mem_of_getElem? (i := 56) (by decide +kernel), List.mem_of_getElem? (i := 512) (by decide +kernel), List.mem_of_getElem? (i := 513) (by decide +kernel)⟩
def yn_se_starterCount : MethodName := ⟨"OrdinalRink$Segment", "starterCount", "()I"⟩
def kc_se_starterCount : List (Nat × Jvm.ClassFile.Instr × Nat) := [(0, .iconst 0, 1), (1, .istore_n 1, 1), (2, .iconst 0, 1), (3, .istore_n 2, 1), (4, .iload_n 2, 1), (5, .aload_n 0, 1), (6, .getfield 39, 3), (9, .if_icmp .ge 21, 3), (12, .aload_n 0, 1), (13, .getfield 9, 3), (16, .iload_n 2, 1), (17, .baload, 1), (18, .ifCond .eq 6, 3), (21, .iinc 1 1, 3), (24, .iinc 2 1, 3), (27, .goto (-23), 3), (30, .iload_n 1, 1), (31, .ireturn, 1)]
theorem ck_se_starterCount : rk_chk prog_3_method_6_code kc_se_starterCount = true := by decide +kernel
theorem ww_se_starterCount : Cond.code yn_se_starterCount prog_3_method_6_code 3 (some .int) ∈ lw_tbl ∧ Cond.initialized yn_se_starterCount.cls ∈ lw_tbl ∧ Cond.instanceMethod yn_se_starterCount ∈ lw_tbl ∧ Cond.selects "OrdinalRink$Segment" yn_se_starterCount yn_se_starterCount ∈ lw_tbl := ⟨List.mem_of_getElem? (i := 580) (by decide +kernel), List.mem_of_getElem? (i := 56) (by decide +kernel), List.mem_of_getElem? (i := 578) (by decide +kernel), List.mem_of_getElem? (i := 579) (by decide +kernel)⟩
def yn_se_isComplete : MethodName := ⟨"OrdinalRink$Segment", "isComplete", "()Z"⟩
def kc_se_isComplete : List (Nat × Jvm.ClassFile.Instr × Nat) := [(0, .iconst 0, 1), (1, .istore_n 1, 1), (2, .iload_n 1, 1), (3, .aload_n 0, 1), (4, .getfield 43, 3), (7, .if_icmp .ge 28, 3), (10, .aload_n 0, 1), (11, .getfield 15, 3), (14, .iload_n 1, 1), (15, .baload, 1), (16, .ifCond .ne 13, 3), (19, .aload_n 0, 1), (20, .iload_n 1, 1), (21, .invokevirtual 56, 3), (24, .ifCond .ne 5, 3), (27, .iconst 0, 1), (28, .ireturn, 1), (29, .iinc 1 1, 3), (32, .goto (-30), 3), (35, .aload_n 0, 1), (36, .invokevirtual 60, 3), (39, .ifCond .le 7, 3), (42, .iconst 1, 1), (43, .goto 4, 3), (46, .iconst 0, 1), (47, .ireturn, 1)]
theorem ck_se_isComplete : rk_chk prog_3_method_7_code kc_se_isComplete = true := by decide +kernel
theorem ww_se_isComplete : Cond.code yn_se_isComplete prog_3_method_7_code 2 (some .boolean) ∈ lw_tbl ∧ Cond.initialized yn_se_isComplete.cls ∈ lw_tbl ∧ Cond.instanceMethod yn_se_isComplete ∈ lw_tbl ∧ Cond.selects "OrdinalRink$Segment" yn_se_isComplete yn_se_isComplete ∈ lw_tbl := ⟨List.mem_of_getElem? (i := 576) (by decide +kernel), List.mem_of_getElem? (i := 56) (by decide +kernel), List.mem_of_getElem? (i := 574) (by decide +kernel), List.mem_of_getElem? (i := 575) (by decide +kernel)⟩
def yn_se_hasMarkedStarters : MethodName := ⟨"OrdinalRink$Segment", "hasMarkedStarters", "(I)Z"⟩
def kc_se_hasMarkedStarters : List (Nat × Jvm.ClassFile.Instr × Nat) := [(0, .iconst 0, 1), (1, .istore_n 2, 1), (2, .iload_n 2, 1), (3, .aload_n 0, 1), (4, .getfield 39, 3), (7, .if_icmp .ge 32, 3), (10, .aload_n 0, 1), (11, .getfield 9, 3), (14, .iload_n 2, 1), (15, .baload, 1), (16, .ifCond .eq 17, 3), (19, .aload_n 0, 1), (20, .getfield 20, 3), (23, .iload_n 1, 1), (24, .aaload, 1), (25, .iload_n 2, 1), (26, .iaload, 1), (27, .iconst (-1), 1), (28, .if_icmp .ne 5, 3), (31, .iconst 0, 1), (32, .ireturn, 1), (33, .iinc 2 1, 3), (36, .goto (-34), 3), (39, .iconst 1, 1), (40, .ireturn, 1)]
theorem ck_se_hasMarkedStarters : rk_chk prog_3_method_8_code kc_se_hasMarkedStarters = true := by decide +kernel
theorem ww_se_hasMarkedStarters : Cond.code yn_se_hasMarkedStarters prog_3_method_8_code 3 (some .boolean) ∈ lw_tbl ∧ Cond.initialized yn_se_hasMarkedStarters.cls ∈ lw_tbl ∧ Cond.instanceMethod yn_se_hasMarkedStarters ∈ lw_tbl ∧ Cond.selects "OrdinalRink$Segment" yn_se_hasMarkedStarters yn_se_hasMarkedStarters ∈ lw_tbl := ⟨List.mem_of_getElem? (i := 547) (by decide +kernel), List.mem_of_getElem? (i := 56) (by decide +kernel), List.mem_of_getElem? (i := 546) (by decide +kernel), List.mem_of_getElem? (i := 9) (by decide +kernel)⟩
def yn_se_ordinalBy : MethodName := ⟨"OrdinalRink$Segment", "ordinalBy", "(II)I"⟩
def kc_se_ordinalBy : List (Nat × Jvm.ClassFile.Instr × Nat) := [(0, .aload_n 0, 1), (1, .getfield 9, 3), (4, .iload_n 2, 1), (5, .baload, 1), (6, .ifCond .eq 11, 3), (9, .aload_n 0, 1), (10, .iload_n 1, 1), (11, .invokevirtual 56, 3), (14, .ifCond .ne 5, 3), (17, .iconst (-1), 1), (18, .ireturn, 1), (19, .aload_n 0, 1), (20, .iload_n 1, 1), (21, .invokevirtual 64, 3), (24, .aload_n 0, 1), (25, .getfield 33, 3), (28, .iload_n 1, 1), (29, .aaload, 1), (30, .iload_n 2, 1), (31, .iaload, 1), (32, .ireturn, 1)]
theorem ck_se_ordinalBy : rk_chk prog_3_method_9_code kc_se_ordinalBy = true := by decide +kernel
theorem ww_se_ordinalBy : Cond.code yn_se_ordinalBy prog_3_method_9_code 3 (some .int) ∈ lw_tbl ∧ Cond.initialized yn_se_ordinalBy.cls ∈ lw_tbl ∧ Cond.instanceMethod yn_se_ordinalBy ∈ lw_tbl ∧ Cond.selects "OrdinalRink$Segment" yn_se_ordinalBy yn_se_ordinalBy ∈ lw_tbl := ⟨List.mem_of_getElem? (i := 543) (by decide +kernel), List.mem_of_getElem? (i := 56) (by decide +kernel), List.mem_of_getElem? (i := 541) (by decide +kernel), List.mem_of_getElem? (i := 542) (by decide +kernel)⟩
def yn_se_worth : MethodName := ⟨"OrdinalRink$Segment", "worth", "(III)I"⟩
def kc_se_worth : List (Nat × Jvm.ClassFile.Instr × Nat) := [(0, .iconst 0, 1), (1, .iload_n 2, 1), (2, .aload_n 0, 1), (3, .getfield 26, 3), (6, .iconst 0, 1), (7, .aaload, 1), (8, .iload_n 1, 1), (9, .iaload, 1), (10, .isub, 1), (11, .invokestatic 68, 3), (14, .istore 4, 2), (16, .iconst 0, 1), (17, .iload_n 3, 1), (18, .aload_n 0, 1), (19, .getfield 26, 3), (22, .iconst 1, 1), (23, .aaload, 1), (24, .iload_n 1, 1), (25, .iaload, 1), (26, .isub, 1), (27, .invokestatic 68, 3), (30, .istore 5, 2), (32, .aload_n 0, 1), (33, .getfield 74, 3), (36, .ifCond .ne 8, 3), (39, .iload 4, 2), (41, .goto 5, 3), (44, .iload 5, 2), (46, .istore 6, 2), (48, .iload 4, 2), (50, .iload 5, 2), (52, .iadd, 1), (53, .bipush 61, 2), (55, .imul, 1), (56, .iload 6, 2), (58, .iadd, 1), (59, .ireturn, 1)]
theorem ck_se_worth : rk_chk prog_3_method_10_code kc_se_worth = true := by decide +kernel
theorem ww_se_worth : Cond.code yn_se_worth prog_3_method_10_code 7 (some .int) ∈ lw_tbl ∧ Cond.initialized yn_se_worth.cls ∈ lw_tbl ∧ Cond.instanceMethod yn_se_worth ∈ lw_tbl ∧ Cond.selects "OrdinalRink$Segment" yn_se_worth yn_se_worth ∈ lw_tbl := ⟨List.mem_of_getElem? (i := 555) (by decide +kernel), List.mem_of_getElem? (i := 56) (by decide +kernel), List.mem_of_getElem? (i := 554) (by decide +kernel), List.mem_of_getElem? (i := 11) (by decide +kernel)⟩
def yn_se_fillOrdinals : MethodName := ⟨"OrdinalRink$Segment", "fillOrdinals", "(I)V"⟩
def kc_se_fillOrdinals : List (Nat × Jvm.ClassFile.Instr × Nat) := [(0, .iconst 0, 1), (1, .istore_n 2, 1), (2, .iload_n 2, 1), (3, .aload_n 0, 1), (4, .getfield 39, 3), (7, .if_icmp .ge 36, 3), (10, .aload_n 0, 1), (11, .getfield 29, 3), (14, .iload_n 2, 1), (15, .aload_n 0, 1), (16, .iload_n 2, 1), (17, .aload_n 0, 1), (18, .getfield 20, 3), (21, .iload_n 1, 1), (22, .aaload, 1), (23, .iload_n 2, 1), (24, .iaload, 1), (25, .aload_n 0, 1), (26, .getfield 23, 3), (29, .iload_n 1, 1), (30, .aaload, 1), (31, .iload_n 2, 1), (32, .iaload, 1), (33, .invokevirtual 77, 3), (36, .iastore, 1), (37, .iinc 2 1, 3), (40, .goto (-38), 3), (43, .iconst 0, 1), (44, .istore_n 2, 1), (45, .iload_n 2, 1), (46, .aload_n 0, 1), (47, .getfield 39, 3), (50, .if_icmp .ge 69, 3), (53, .iconst 0, 1), (54, .istore_n 3, 1), (55, .iconst 0, 1), (56, .istore 4, 2), (58, .iload 4, 2), (60, .aload_n 0, 1), (61, .getfield 39, 3), (64, .if_icmp .ge 38, 3), (67, .aload_n 0, 1), (68, .getfield 9, 3), (71, .iload 4, 2), (73, .baload, 1), (74, .ifCond .eq 22, 3), (77, .aload_n 0, 1), (78, .getfield 29, 3), (81, .iload 4, 2), (83, .iaload, 1), (84, .aload_n 0, 1), (85, .getfield 29, 3), (88, .iload_n 2, 1), (89, .iaload, 1), (90, .if_icmp .le 6, 3), (93, .iinc 3 1, 3), (96, .iinc 4 1, 3), (99, .goto (-41), 3), (102, .aload_n 0, 1), (103, .getfield 33, 3), (106, .iload_n 1, 1), (107, .aaload, 1), (108, .iload_n 2, 1), (109, .iconst 1, 1), (110, .iload_n 3, 1), (111, .iadd, 1), (112, .iastore, 1), (113, .iinc 2 1, 3), (116, .goto (-71), 3), (119, .return_, 1)]
theorem ck_se_fillOrdinals : rk_chk prog_3_method_11_code kc_se_fillOrdinals = true := by decide +kernel
theorem ww_se_fillOrdinals : Cond.code yn_se_fillOrdinals prog_3_method_11_code 5 none ∈ lw_tbl ∧ Cond.initialized yn_se_fillOrdinals.cls ∈ lw_tbl ∧ Cond.instanceMethod yn_se_fillOrdinals ∈ lw_tbl ∧ Cond.selects "OrdinalRink$Segment" yn_se_fillOrdinals yn_se_fillOrdinals ∈ lw_tbl := ⟨List.mem_of_getElem? (i := 551) (by decide +kernel), List.mem_of_getElem? (i := 56) (by decide +kernel), List.mem_of_getElem? (i := 550) (by decide +kernel), List.mem_of_getElem? (i := 10) (by decide +kernel)⟩
def yn_se_settlesFor : MethodName := ⟨"OrdinalRink$Segment", "settlesFor", "(I)Z"⟩
def kc_se_settlesFor : List (Nat × Jvm.ClassFile.Instr × Nat) := [(0, .aload_n 0, 1), (1, .getfield 9, 3), (4, .iload_n 1, 1), (5, .baload, 1), (6, .ifCond .eq 14, 3), (9, .aload_n 0, 1), (10, .invokevirtual 81, 3), (13, .ifCond .eq 7, 3), (16, .iconst 1, 1), (17, .goto 4, 3), (20, .iconst 0, 1), (21, .ireturn, 1)]
theorem ck_se_settlesFor : rk_chk prog_3_method_12_code kc_se_settlesFor = true := by decide +kernel
theorem ww_se_settlesFor : Cond.code yn_se_settlesFor prog_3_method_12_code 2 (some .boolean) ∈ lw_tbl ∧ Cond.initialized yn_se_settlesFor.cls ∈ lw_tbl ∧ Cond.instanceMethod yn_se_settlesFor ∈ lw_tbl ∧ Cond.selects "OrdinalRink$Segment" yn_se_settlesFor yn_se_settlesFor ∈ lw_tbl := ⟨List.mem_of_getElem? (i := 568) (by decide +kernel), List.mem_of_getElem? (i := 56) (by decide +kernel), List.mem_of_getElem? (i := 566) (by decide +kernel), List.mem_of_getElem? (i := 567) (by decide +kernel)⟩
def yn_se_settle : MethodName := ⟨"OrdinalRink$Segment", "settle", "()Z"⟩
def kc_se_settle : List (Nat × Jvm.ClassFile.Instr × Nat) := [(0, .aload_n 0, 1), (1, .invokevirtual 85, 3), (4, .ifCond .ne 5, 3), (7, .iconst 0, 1), (8, .ireturn, 1), (9, .iconst 0, 1), (10, .istore_n 1, 1), (11, .iload_n 1, 1), (12, .aload_n 0, 1), (13, .getfield 43, 3), (16, .if_icmp .ge 23, 3), (19, .aload_n 0, 1), (20, .getfield 15, 3), (23, .iload_n 1, 1), (24, .baload, 1), (25, .ifCond .ne 8, 3), (28, .aload_n 0, 1), (29, .iload_n 1, 1), (30, .invokevirtual 64, 3), (33, .iinc 1 1, 3), (36, .goto (-25), 3), (39, .aload_n 0, 1), (40, .invokevirtual 88, 3), (43, .istore_n 1, 1), (44, .iconst 0, 1), (45, .istore_n 2, 1), (46, .iload_n 2, 1), (47, .aload_n 0, 1), (48, .getfield 39, 3), (51, .if_icmp .ge 15, 3), (54, .aload_n 0, 1), (55, .iload_n 2, 1), (56, .iload_n 1, 1), (57, .invokevirtual 91, 3), (60, .iinc 2 1, 3), (63, .goto (-17), 3), (66, .iconst 0, 1), (67, .istore_n 2, 1), (68, .iload_n 2, 1), (69, .aload_n 0, 1), (70, .getfield 39, 3), (73, .if_icmp .ge 14, 3), (76, .aload_n 0, 1), (77, .iload_n 2, 1), (78, .invokevirtual 95, 3), (81, .iinc 2 1, 3), (84, .goto (-16), 3), (87, .iconst 1, 1), (88, .ireturn, 1)]
theorem ck_se_settle : rk_chk prog_3_method_13_code kc_se_settle = true := by decide +kernel
theorem ww_se_settle : Cond.code yn_se_settle prog_3_method_13_code 3 (some .boolean) ∈ lw_tbl ∧ Cond.initialized yn_se_settle.cls ∈ lw_tbl ∧ Cond.instanceMethod yn_se_settle ∈ lw_tbl ∧ Cond.selects "OrdinalRink$Segment" yn_se_settle yn_se_settle ∈ lw_tbl := ⟨List.mem_of_getElem? (i := 572) (by decide +kernel), List.mem_of_getElem? (i := 56) (by decide +kernel), List.mem_of_getElem? (i := 570) (by decide +kernel), List.mem_of_getElem? (i := 571) (by decide +kernel)⟩
def yn_se_fillMajority : MethodName := ⟨"OrdinalRink$Segment", "fillMajority", "(II)V"⟩
def kc_se_fillMajority : List (Nat × Jvm.ClassFile.Instr × Nat) := [(0, .iconst 1, 1), (1, .istore_n 3, 1), (2, .iload_n 3, 1), (3, .aload_n 0, 1), (4, .getfield 39, 3), (7, .if_icmp .ge 21, 3), (10, .iconst 2, 1), (11, .aload_n 0, 1), (12, .iload_n 3, 1), (13, .iload_n 1, 1), (14, .invokevirtual 98, 3), (17, .imul, 1), (18, .iload_n 2, 1), (19, .if_icmp .gt 9, 3), (22, .iinc 3 1, 3), (25, .goto (-23), 3), (28, .aload_n 0, 1), (29, .getfield 36, 3), (32, .iconst 0, 1), (33, .aaload, 1), (34, .iload_n 1, 1), (35, .iload_n 3, 1), (36, .iastore, 1), (37, .aload_n 0, 1), (38, .getfield 36, 3), (41, .iconst 1, 1), (42, .aaload, 1), (43, .iload_n 1, 1), (44, .aload_n 0, 1), (45, .iload_n 3, 1), (46, .iload_n 1, 1), (47, .invokevirtual 98, 3), (50, .iastore, 1), (51, .aload_n 0, 1), (52, .getfield 36, 3), (55, .iconst 2, 1), (56, .aaload, 1), (57, .iload_n 1, 1), (58, .aload_n 0, 1), (59, .iload_n 3, 1), (60, .iload_n 1, 1), (61, .invokevirtual 101, 3), (64, .iastore, 1), (65, .aload_n 0, 1), (66, .getfield 36, 3), (69, .iconst 3, 1), (70, .aaload, 1), (71, .iload_n 1, 1), (72, .aload_n 0, 1), (73, .aload_n 0, 1), (74, .getfield 39, 3), (77, .iload_n 1, 1), (78, .invokevirtual 101, 3), (81, .iastore, 1), (82, .return_, 1)]
theorem ck_se_fillMajority : rk_chk prog_3_method_14_code kc_se_fillMajority = true := by decide +kernel
theorem ww_se_fillMajority : Cond.code yn_se_fillMajority prog_3_method_14_code 4 none ∈ lw_tbl ∧ Cond.initialized yn_se_fillMajority.cls ∈ lw_tbl ∧ Cond.instanceMethod yn_se_fillMajority ∈ lw_tbl ∧ Cond.selects "OrdinalRink$Segment" yn_se_fillMajority yn_se_fillMajority ∈ lw_tbl := ⟨List.mem_of_getElem? (i := 585) (by decide +kernel), List.mem_of_getElem? (i := 56) (by decide +kernel), List.mem_of_getElem? (i := 584) (by decide +kernel), List.mem_of_getElem? (i := 12) (by decide +kernel)⟩
def yn_se_countUpTo : MethodName := ⟨"OrdinalRink$Segment", "countUpTo", "(II)I"⟩
def kc_se_countUpTo : List (Nat × Jvm.ClassFile.Instr × Nat) := [(0, .iconst 0, 1), (1, .istore_n 3, 1), (2, .iconst 0, 1), (3, .istore 4, 2), (5, .iload 4, 2), (7, .aload_n 0, 1), (8, .getfield 43, 3), (11, .if_icmp .ge 35, 3), (14, .aload_n 0, 1), (15, .getfield 15, 3), (18, .iload 4, 2), (20, .baload, 1), (21, .ifCond .ne 19, 3), (24, .aload_n 0, 1), (25, .getfield 33, 3), (28, .iload 4, 2), (30, .aaload, 1), (31, .iload_n 2, 1), (32, .iaload, 1), (33, .iload_n 1, 1), (34, .if_icmp .gt 6, 3), (37, .iinc 3 1, 3), (40, .iinc 4 1, 3), (43, .goto (-38), 3), (46, .iload_n 3, 1), (47, .ireturn, 1)]
theorem ck_se_countUpTo : rk_chk prog_3_method_15_code kc_se_countUpTo = true := by decide +kernel
theorem ww_se_countUpTo : Cond.code yn_se_countUpTo prog_3_method_15_code 5 (some .int) ∈ lw_tbl ∧ Cond.initialized yn_se_countUpTo.cls ∈ lw_tbl ∧ Cond.instanceMethod yn_se_countUpTo ∈ lw_tbl ∧ Cond.selects "OrdinalRink$Segment" yn_se_countUpTo yn_se_countUpTo ∈ lw_tbl := ⟨List.mem_of_getElem? (i := 589) (by decide +kernel), List.mem_of_getElem? (i := 56) (by decide +kernel), List.mem_of_getElem? (i := 588) (by decide +kernel), List.mem_of_getElem? (i := 13) (by decide +kernel)⟩
def yn_se_sumUpTo : MethodName := ⟨"OrdinalRink$Segment", "sumUpTo", "(II)I"⟩
def kc_se_sumUpTo : List (Nat × Jvm.ClassFile.Instr × Nat) := [(0, .iconst 0, 1), (1, .istore_n 3, 1), (2, .iconst 0, 1), (3, .istore 4, 2), (5, .iload 4, 2), (7, .aload_n 0, 1), (8, .getfield 43, 3), (11, .if_icmp .ge 44, 3), (14, .aload_n 0, 1), (15, .getfield 15, 3), (18, .iload 4, 2), (20, .baload, 1), (21, .ifCond .ne 28, 3), (24, .aload_n 0, 1), (25, .getfield 33, 3), (28, .iload 4, 2), (30, .aaload, 1), (31, .iload_n 2, 1), (32, .iaload, 1), (33, .iload_n 1, 1), (34, .if_icmp .gt 15, 3), (37, .iload_n 3, 1), (38, .aload_n 0, 1), (39, .getfield 33, 3), (42, .iload 4, 2), (44, .aaload, 1), (45, .iload_n 2, 1), (46, .iaload, 1), (47, .iadd, 1), (48, .istore_n 3, 1), (49, .iinc 4 1, 3), (52, .goto (-47), 3), (55, .iload_n 3, 1), (56, .ireturn, 1)]
theorem ck_se_sumUpTo : rk_chk prog_3_method_16_code kc_se_sumUpTo = true := by decide +kernel
theorem ww_se_sumUpTo : Cond.code yn_se_sumUpTo prog_3_method_16_code 5 (some .int) ∈ lw_tbl ∧ Cond.initialized yn_se_sumUpTo.cls ∈ lw_tbl ∧ Cond.instanceMethod yn_se_sumUpTo ∈ lw_tbl ∧ Cond.selects "OrdinalRink$Segment" yn_se_sumUpTo yn_se_sumUpTo ∈ lw_tbl := ⟨List.mem_of_getElem? (i := 593) (by decide +kernel), List.mem_of_getElem? (i := 56) (by decide +kernel), List.mem_of_getElem? (i := 592) (by decide +kernel), List.mem_of_getElem? (i := 14) (by decide +kernel)⟩
def yn_se_fillPlace : MethodName := ⟨"OrdinalRink$Segment", "fillPlace", "(I)V"⟩
def kc_se_fillPlace : List (Nat × Jvm.ClassFile.Instr × Nat) := [(0, .iconst 2, 1), (1, .istore_n 2, 1), (2, .iconst 0, 1), (3, .istore_n 3, 1), (4, .iload_n 3, 1), (5, .aload_n 0, 1), (6, .getfield 39, 3), (9, .if_icmp .ge 56, 3), (12, .aload_n 0, 1), (13, .getfield 9, 3), (16, .iload_n 3, 1), (17, .baload, 1), (18, .ifCond .eq 41, 3), (21, .iload_n 3, 1), (22, .iload_n 1, 1), (23, .if_icmp .eq 36, 3), (26, .aload_n 0, 1), (27, .iload_n 3, 1), (28, .iload_n 1, 1), (29, .invokevirtual 104, 3), (32, .istore 4, 2), (34, .iload 4, 2), (36, .ifCond .ne 9, 3), (39, .iinc 2 1, 3), (42, .goto 17, 3), (45, .aload_n 0, 1), (46, .iload 4, 2), (48, .iload_n 3, 1), (49, .iload_n 1, 1), (50, .invokevirtual 107, 3), (53, .ifCond .eq 6, 3), (56, .iinc 2 2, 3), (59, .iinc 3 1, 3), (62, .goto (-58), 3), (65, .aload_n 0, 1), (66, .getfield 36, 3), (69, .iconst 4, 1), (70, .aaload, 1), (71, .iload_n 1, 1), (72, .iload_n 2, 1), (73, .iastore, 1), (74, .return_, 1)]
theorem ck_se_fillPlace : rk_chk prog_3_method_17_code kc_se_fillPlace = true := by decide +kernel
theorem ww_se_fillPlace : Cond.code yn_se_fillPlace prog_3_method_17_code 5 none ∈ lw_tbl ∧ Cond.initialized yn_se_fillPlace.cls ∈ lw_tbl ∧ Cond.instanceMethod yn_se_fillPlace ∈ lw_tbl ∧ Cond.selects "OrdinalRink$Segment" yn_se_fillPlace yn_se_fillPlace ∈ lw_tbl := ⟨List.mem_of_getElem? (i := 597) (by decide +kernel), List.mem_of_getElem? (i := 56) (by decide +kernel), List.mem_of_getElem? (i := 596) (by decide +kernel), List.mem_of_getElem? (i := 15) (by decide +kernel)⟩
def yn_se_partingStep : MethodName := ⟨"OrdinalRink$Segment", "partingStep", "(II)I"⟩
def kc_se_partingStep : List (Nat × Jvm.ClassFile.Instr × Nat) := [(0, .iconst 0, 1), (1, .istore_n 3, 1), (2, .iload_n 3, 1), (3, .iconst 3, 1), (4, .if_icmp .gt 32, 3), (7, .aload_n 0, 1), (8, .getfield 36, 3), (11, .iload_n 3, 1), (12, .aaload, 1), (13, .iload_n 1, 1), (14, .iaload, 1), (15, .aload_n 0, 1), (16, .getfield 36, 3), (19, .iload_n 3, 1), (20, .aaload, 1), (21, .iload_n 2, 1), (22, .iaload, 1), (23, .if_icmp .eq 7, 3), (26, .iconst 1, 1), (27, .iload_n 3, 1), (28, .iadd, 1), (29, .ireturn, 1), (30, .iinc 3 1, 3), (33, .goto (-31), 3), (36, .iconst 0, 1), (37, .ireturn, 1)]
theorem ck_se_partingStep : rk_chk prog_3_method_18_code kc_se_partingStep = true := by decide +kernel
theorem ww_se_partingStep : Cond.code yn_se_partingStep prog_3_method_18_code 4 (some .int) ∈ lw_tbl ∧ Cond.initialized yn_se_partingStep.cls ∈ lw_tbl ∧ Cond.instanceMethod yn_se_partingStep ∈ lw_tbl ∧ Cond.selects "OrdinalRink$Segment" yn_se_partingStep yn_se_partingStep ∈ lw_tbl := ⟨List.mem_of_getElem? (i := 601) (by decide +kernel), List.mem_of_getElem? (i := 56) (by decide +kernel), List.mem_of_getElem? (i := 599) (by decide +kernel), List.mem_of_getElem? (i := 600) (by decide +kernel)⟩
def yn_se_isBeforeAt : MethodName := ⟨"OrdinalRink$Segment", "isBeforeAt", "(III)Z"⟩
def kc_se_isBeforeAt : List (Nat × Jvm.ClassFile.Instr × Nat) := [(0, .iload_n 1, 1), (1, .iconst 1, 1), (2, .isub, 1), (3, .istore 4, 2), (5, .iload 4, 2), (7, .iconst 1, 1), (8, .if_icmp .ne 32, 3), (11, .aload_n 0, 1), (12, .getfield 36, 3), (15, .iload 4, 2), (17, .aaload, 1), (18, .iload_n 2, 1), (19, .iaload, 1), (20, .aload_n 0, 1), (21, .getfield 36, 3), (24, .iload 4, 2), (26, .aaload, 1), (27, .iload_n 3, 1), (28, .iaload, 1), (29, .if_icmp .le 7, 3), (32, .iconst 1, 1), (33, .goto 33, 3), (36, .iconst 0, 1), (37, .goto 29, 3), (40, .aload_n 0, 1), (41, .getfield 36, 3), (44, .iload 4, 2), (46, .aaload, 1), (47, .iload_n 2, 1), (48, .iaload, 1), (49, .aload_n 0, 1), (50, .getfield 36, 3), (53, .iload 4, 2), (55, .aaload, 1), (56, .iload_n 3, 1), (57, .iaload, 1), (58, .if_icmp .ge 7, 3), (61, .iconst 1, 1), (62, .goto 4, 3), (65, .iconst 0, 1), (66, .ireturn, 1)]
theorem ck_se_isBeforeAt : rk_chk prog_3_method_19_code kc_se_isBeforeAt = true := by decide +kernel
theorem ww_se_isBeforeAt : Cond.code yn_se_isBeforeAt prog_3_method_19_code 5 (some .boolean) ∈ lw_tbl ∧ Cond.initialized yn_se_isBeforeAt.cls ∈ lw_tbl ∧ Cond.instanceMethod yn_se_isBeforeAt ∈ lw_tbl ∧ Cond.selects "OrdinalRink$Segment" yn_se_isBeforeAt yn_se_isBeforeAt ∈ lw_tbl := ⟨List.mem_of_getElem? (i := 605) (by decide +kernel), List.mem_of_getElem? (i := 56) (by decide +kernel), List.mem_of_getElem? (i := 604) (by decide +kernel), List.mem_of_getElem? (i := 16) (by decide +kernel)⟩
def yn_se_leastSum : MethodName := ⟨"OrdinalRink$Segment", "leastSum", "(II)I"⟩
def kc_se_leastSum : List (Nat × Jvm.ClassFile.Instr × Nat) := [(0, .aload_n 0, 1), (1, .getfield 9, 3), (4, .iload_n 1, 1), (5, .baload, 1), (6, .ifCond .ne 5, 3), (9, .iconst (-1), 1), (10, .ireturn, 1), (11, .aload_n 0, 1), (12, .invokevirtual 111, 3), (15, .istore_n 3, 1), (16, .aload_n 0, 1), (17, .getfield 20, 3), (20, .iload_n 3, 1), (21, .aaload, 1), (22, .iload_n 1, 1), (23, .iaload, 1), (24, .istore 4, 2), (26, .aload_n 0, 1), (27, .getfield 23, 3), (30, .iload_n 3, 1), (31, .aaload, 1), (32, .iload_n 1, 1), (33, .iaload, 1), (34, .istore 5, 2), (36, .iconst 0, 1), (37, .istore 6, 2), (39, .bipush 64, 2), (41, .istore 7, 2), (43, .iload 7, 2), (45, .ifCond .le 47, 3), (48, .iload 6, 2), (50, .iload 7, 2), (52, .iadd, 1), (53, .iconst 1, 1), (54, .isub, 1), (55, .istore 8, 2), (57, .iload 8, 2), (59, .bipush 121, 2), (61, .if_icmp .ge 22, 3), (64, .aload_n 0, 1), (65, .iload_n 3, 1), (66, .iload_n 1, 1), (67, .iload 8, 2), (69, .iload_n 2, 1), (70, .invokevirtual 114, 3), (73, .ifCond .ne 10, 3), (76, .iload 6, 2), (78, .iload 7, 2), (80, .iadd, 1), (81, .istore 6, 2), (83, .iload 7, 2), (85, .iconst 2, 1), (86, .idiv, 1), (87, .istore 7, 2), (89, .goto (-46), 3), (92, .aload_n 0, 1), (93, .iload_n 3, 1), (94, .iload_n 1, 1), (95, .iload 4, 2), (97, .iload 5, 2), (99, .invokevirtual 118, 3), (102, .iload 6, 2), (104, .bipush 121, 2), (106, .if_icmp .ge 8, 3), (109, .iload 6, 2), (111, .goto 4, 3), (114, .iconst (-1), 1), (115, .ireturn, 1)]
theorem ck_se_leastSum : rk_chk prog_3_method_20_code kc_se_leastSum = true := by decide +kernel
theorem ww_se_leastSum : Cond.code yn_se_leastSum prog_3_method_20_code 9 (some .int) ∈ lw_tbl ∧ Cond.initialized yn_se_leastSum.cls ∈ lw_tbl ∧ Cond.instanceMethod yn_se_leastSum ∈ lw_tbl ∧ Cond.selects "OrdinalRink$Segment" yn_se_leastSum yn_se_leastSum ∈ lw_tbl := ⟨List.mem_of_getElem? (i := 625) (by decide +kernel), List.mem_of_getElem? (i := 56) (by decide +kernel), List.mem_of_getElem? (i := 623) (by decide +kernel), List.mem_of_getElem? (i := 624) (by decide +kernel)⟩
def yn_se_lastOfPanel : MethodName := ⟨"OrdinalRink$Segment", "lastOfPanel", "()I"⟩
def kc_se_lastOfPanel : List (Nat × Jvm.ClassFile.Instr × Nat) := [(0, .iconst 0, 1), (1, .istore_n 1, 1), (2, .iconst 0, 1), (3, .istore_n 2, 1), (4, .iload_n 2, 1), (5, .aload_n 0, 1), (6, .getfield 43, 3), (9, .if_icmp .ge 20, 3), (12, .aload_n 0, 1), (13, .getfield 15, 3), (16, .iload_n 2, 1), (17, .baload, 1), (18, .ifCond .ne 5, 3), (21, .iload_n 2, 1), (22, .istore_n 1, 1), (23, .iinc 2 1, 3), (26, .goto (-22), 3), (29, .iload_n 1, 1), (30, .ireturn, 1)]
theorem ck_se_lastOfPanel : rk_chk prog_3_method_21_code kc_se_lastOfPanel = true := by decide +kernel
theorem ww_se_lastOfPanel : Cond.code yn_se_lastOfPanel prog_3_method_21_code 3 (some .int) ∈ lw_tbl ∧ Cond.initialized yn_se_lastOfPanel.cls ∈ lw_tbl ∧ Cond.instanceMethod yn_se_lastOfPanel ∈ lw_tbl ∧ Cond.selects "OrdinalRink$Segment" yn_se_lastOfPanel yn_se_lastOfPanel ∈ lw_tbl := ⟨List.mem_of_getElem? (i := 629) (by decide +kernel), List.mem_of_getElem? (i := 56) (by decide +kernel), List.mem_of_getElem? (i := 628) (by decide +kernel), List.mem_of_getElem? (i := 17) (by decide +kernel)⟩
def yn_se_reaches : MethodName := ⟨"OrdinalRink$Segment", "reaches", "(IIII)Z"⟩
def kc_se_reaches : List (Nat × Jvm.ClassFile.Instr × Nat) := [(0, .aload_n 0, 1), (1, .iload_n 2, 1), (2, .iload_n 3, 1), (3, .invokevirtual 122, 3), (6, .istore 5, 2), (8, .aload_n 0, 1), (9, .iload_n 1, 1), (10, .iload_n 2, 1), (11, .iload 5, 2), (13, .iload_n 3, 1), (14, .iload 5, 2), (16, .isub, 1), (17, .invokevirtual 118, 3), (20, .aload_n 0, 1), (21, .invokevirtual 81, 3), (24, .ifCond .eq 20, 3), (27, .aload_n 0, 1), (28, .getfield 36, 3), (31, .iconst 4, 1), (32, .aaload, 1), (33, .iload_n 2, 1), (34, .iaload, 1), (35, .iload 4, 2), (37, .if_icmp .gt 7, 3), (40, .iconst 1, 1), (41, .goto 4, 3), (44, .iconst 0, 1), (45, .ireturn, 1)]
theorem ck_se_reaches : rk_chk prog_3_method_22_code kc_se_reaches = true := by decide +kernel
theorem ww_se_reaches : Cond.code yn_se_reaches prog_3_method_22_code 6 (some .boolean) ∈ lw_tbl ∧ Cond.initialized yn_se_reaches.cls ∈ lw_tbl ∧ Cond.instanceMethod yn_se_reaches ∈ lw_tbl ∧ Cond.selects "OrdinalRink$Segment" yn_se_reaches yn_se_reaches ∈ lw_tbl := ⟨List.mem_of_getElem? (i := 633) (by decide +kernel), List.mem_of_getElem? (i := 56) (by decide +kernel), List.mem_of_getElem? (i := 632) (by decide +kernel), List.mem_of_getElem? (i := 18) (by decide +kernel)⟩
def yn_se_bestFirst : MethodName := ⟨"OrdinalRink$Segment", "bestFirst", "(II)I"⟩
def kc_se_bestFirst : List (Nat × Jvm.ClassFile.Instr × Nat) := [(0, .iconst 0, 1), (1, .iload_n 2, 1), (2, .bipush 60, 2), (4, .isub, 1), (5, .invokestatic 68, 3), (8, .istore_n 3, 1), (9, .bipush 60, 2), (11, .iload_n 2, 1), (12, .invokestatic 125, 3), (15, .istore 4, 2), (17, .iload_n 3, 1), (18, .iconst 1, 1), (19, .iadd, 1), (20, .istore 5, 2), (22, .iload 5, 2), (24, .iload 4, 2), (26, .if_icmp .gt 35, 3), (29, .aload_n 0, 1), (30, .iload_n 1, 1), (31, .iload 5, 2), (33, .iload_n 2, 1), (34, .iload 5, 2), (36, .isub, 1), (37, .invokevirtual 77, 3), (40, .aload_n 0, 1), (41, .iload_n 1, 1), (42, .iload_n 3, 1), (43, .iload_n 2, 1), (44, .iload_n 3, 1), (45, .isub, 1), (46, .invokevirtual 77, 3), (49, .if_icmp .le 6, 3), (52, .iload 5, 2), (54, .istore_n 3, 1), (55, .iinc 5 1, 3), (58, .goto (-36), 3), (61, .iload_n 3, 1), (62, .ireturn, 1)]
theorem ck_se_bestFirst : rk_chk prog_3_method_23_code kc_se_bestFirst = true := by decide +kernel
theorem ww_se_bestFirst : Cond.code yn_se_bestFirst prog_3_method_23_code 6 (some .int) ∈ lw_tbl ∧ Cond.initialized yn_se_bestFirst.cls ∈ lw_tbl ∧ Cond.instanceMethod yn_se_bestFirst ∈ lw_tbl ∧ Cond.selects "OrdinalRink$Segment" yn_se_bestFirst yn_se_bestFirst ∈ lw_tbl := ⟨List.mem_of_getElem? (i := 637) (by decide +kernel), List.mem_of_getElem? (i := 56) (by decide +kernel), List.mem_of_getElem? (i := 636) (by decide +kernel), List.mem_of_getElem? (i := 19) (by decide +kernel)⟩
def ft_pr : List (Nat × Nat × Nat × Int) := [(9, 1, 0, 0)]
theorem ftc_pr : rk_ftc "OrdinalRink$ProofReader" ft_pr = true := by decide +kernel
def yn_pr_firstFault : MethodName := ⟨"OrdinalRink$ProofReader", "firstFault", "(Ljava/lang/StringBuilder;)I"⟩
def kc_pr_firstFault : List (Nat × Jvm.ClassFile.Instr × Nat) := [(0, .iconst 0, 1), (1, .istore_n 2, 1), (2, .iconst 0, 1), (3, .istore_n 3, 1), (4, .aload_n 0, 1), (5, .getfield 9, 3), (8, .iconst 0, 1), (9, .iconst 0, 1), (10, .iastore, 1), (11, .iconst 0, 1), (12, .istore 4, 2), (14, .iload 4, 2), (16, .aload_n 1, 1), (17, .invokevirtual 15, 3), (20, .if_icmp .ge 105, 3), (23, .aload_n 1, 1), (24, .iload 4, 2), (26, .invokevirtual 21, 3), (29, .istore 5, 2), (31, .iload 5, 2), (33, .bipush 48, 2), (35, .if_icmp .lt 50, 3), (38, .iload 5, 2), (40, .bipush 57, 2), (42, .if_icmp .gt 43, 3), (45, .iload_n 3, 1), (46, .aload_n 0, 1), (47, .getfield 9, 3), (50, .iload_n 2, 1), (51, .iaload, 1), (52, .invokestatic 25, 3), (55, .ifCond .eq 30, 3), (58, .aload_n 0, 1), (59, .getfield 9, 3), (62, .iload_n 2, 1), (63, .bipush 10, 2), (65, .aload_n 0, 1), (66, .getfield 9, 3), (69, .iload_n 2, 1), (70, .iaload, 1), (71, .imul, 1), (72, .iload 5, 2), (74, .bipush 48, 2), (76, .isub, 1), (77, .iadd, 1), (78, .iastore, 1), (79, .iinc 3 1, 3), (82, .goto 37, 3), (85, .iload 5, 2), (87, .bipush 32, 2), (89, .if_icmp .ne 27, 3), (92, .iload_n 3, 1), (93, .ifCond .le 23, 3), (96, .iload_n 2, 1), (97, .iconst 5, 1), (98, .if_icmp .ge 18, 3), (101, .iinc 2 1, 3), (104, .iconst 0, 1), (105, .istore_n 3, 1), (106, .aload_n 0, 1), (107, .getfield 9, 3), (110, .iload_n 2, 1), (111, .iconst 0, 1), (112, .iastore, 1), (113, .goto 6, 3), (116, .iload 4, 2), (118, .ireturn, 1), (119, .iinc 4 1, 3), (122, .goto (-108), 3), (125, .iload_n 2, 1), (126, .iconst 5, 1), (127, .if_icmp .ne 11, 3), (130, .iload_n 3, 1), (131, .ifCond .le 7, 3), (134, .iconst (-1), 1), (135, .goto 7, 3), (138, .aload_n 1, 1), (139, .invokevirtual 15, 3), (142, .ireturn, 1)]
theorem ck_pr_firstFault : rk_chk prog_2_method_2_code kc_pr_firstFault = true := by decide +kernel
theorem ww_pr_firstFault : Cond.code yn_pr_firstFault prog_2_method_2_code 6 (some .int) ∈ lw_tbl ∧ Cond.initialized yn_pr_firstFault.cls ∈ lw_tbl ∧ Cond.instanceMethod yn_pr_firstFault ∈ lw_tbl ∧ Cond.selects "OrdinalRink$ProofReader" yn_pr_firstFault yn_pr_firstFault ∈ lw_tbl := ⟨List.mem_of_getElem? (i := 893) (by decide +kernel), List.mem_of_getElem? (i := 55) (by decide +kernel), List.mem_of_getElem? (i := 891) (by decide +kernel), List.mem_of_getElem? (i := 892) (by decide +kernel)⟩
def yn_pr_canGrow : MethodName := ⟨"OrdinalRink$ProofReader", "canGrow", "(II)Z"⟩
def kc_pr_canGrow : List (Nat × Jvm.ClassFile.Instr × Nat) := [(0, .iload_n 0, 1), (1, .ifCond .eq 12, 3), (4, .iload_n 0, 1), (5, .iconst 4, 1), (6, .if_icmp .ge 11, 3), (9, .iload_n 1, 1), (10, .ifCond .eq 7, 3), (13, .iconst 1, 1), (14, .goto 4, 3), (17, .iconst 0, 1), (18, .ireturn, 1)]
theorem ck_pr_canGrow : rk_chk prog_2_method_3_code kc_pr_canGrow = true := by decide +kernel
theorem ww_pr_canGrow : Cond.code yn_pr_canGrow prog_2_method_3_code 2 (some .boolean) ∈ lw_tbl ∧ Cond.initialized yn_pr_canGrow.cls ∈ lw_tbl ∧ Cond.static yn_pr_canGrow ∈ lw_tbl := ⟨List.mem_of_getElem? (i := 898) (by decide +kernel), List.mem_of_getElem? (i := 55) (by decide +kernel), List.mem_of_getElem? (i := 897) (by decide +kernel)⟩
def ft_ri : List (Nat × Nat × Nat × Int) := [(11, 0, 0, 0), (18, 0, 1, 1), (22, 0, 2, 2), (28, 0, 3, 3), (57, 2, 0, 0), (61, 2, 1, 1), (86, 2, 6, 6), (111, 2, 5, 5), (124, 2, 12, 12), (142, 2, 2, 2), (155, 0, 4, 4), (188, 0, 5, 5), (213, 1, 0, 0)]
theorem ftc_ri : rk_ftc "OrdinalRink" ft_ri = true := by decide +kernel
def yn_ri_event : MethodName := ⟨"OrdinalRink", "event", "(II)V"⟩
def kc_ri_event : List (Nat × Jvm.ClassFile.Instr × Nat) := [(0, .iload_n 1, 1), (1, .iconst 2, 1), (2, .if_icmp .lt 9, 3), (5, .iload_n 1, 1), (6, .bipush 10, 2), (8, .if_icmp .le 13, 3), (11, .new 37, 3), (21, .iload_n 2, 1), (22, .iconst 3, 1), (23, .if_icmp .lt 9, 3), (26, .iload_n 2, 1), (27, .bipush 9, 2), (29, .if_icmp .le 13, 3), (32, .new 37, 3), (42, .aload_n 0, 1), (43, .iload_n 1, 1), (44, .iload_n 2, 1), (45, .invokevirtual 33, 3), (48, .return_, 1)]
theorem ck_ri_event : rk_chk prog_1_method_2_code kc_ri_event = true := by decide +kernel
theorem ww_ri_event : Cond.code yn_ri_event prog_1_method_2_code 3 none ∈ lw_tbl ∧ Cond.initialized yn_ri_event.cls ∈ lw_tbl ∧ Cond.instanceMethod yn_ri_event ∈ lw_tbl ∧ Cond.selects "OrdinalRink" yn_ri_event yn_ri_event ∈ lw_tbl := ⟨List.mem_of_getElem? (i := 344) (by decide +kernel), List.mem_of_getElem? (i := 50) (by decide +kernel), List.mem_of_getElem? (i := 342) (by decide +kernel), List.mem_of_getElem? (i := 343) (by decide +kernel)⟩
def yn_ri_segment : MethodName := ⟨"OrdinalRink", "segment", "(III)V"⟩
def kc_ri_segment : List (Nat × Jvm.ClassFile.Instr × Nat) := [(0, .aload_n 0, 1), (1, .iload_n 1, 1), (2, .invokevirtual 46, 3), (5, .iload_n 2, 1), (6, .ifCond .eq 18, 3), (9, .iload_n 2, 1), (10, .iconst 1, 1), (11, .if_icmp .eq 13, 3), (14, .new 37, 3), (24, .iload_n 3, 1), (25, .iconst 1, 1), (26, .if_icmp .lt 9, 3), (29, .iload_n 3, 1), (30, .bipush 20, 2), (32, .if_icmp .le 13, 3), (35, .new 37, 3), (45, .aload_n 0, 1), (46, .iload_n 1, 1), (47, .invokevirtual 54, 3), (50, .aload_n 0, 1), (51, .getfield 11, 3), (54, .iload_n 1, 1), (55, .aaload, 1), (56, .iload_n 2, 1), (57, .putfield 57, 3), (60, .aload_n 0, 1), (61, .getfield 11, 3), (64, .iload_n 1, 1), (65, .aaload, 1), (66, .iload_n 3, 1), (67, .putfield 61, 3), (70, .return_, 1)]
theorem ck_ri_segment : rk_chk prog_1_method_3_code kc_ri_segment = true := by decide +kernel
theorem ww_ri_segment : Cond.code yn_ri_segment prog_1_method_3_code 4 none ∈ lw_tbl ∧ Cond.initialized yn_ri_segment.cls ∈ lw_tbl ∧ Cond.instanceMethod yn_ri_segment ∈ lw_tbl ∧ Cond.selects "OrdinalRink" yn_ri_segment yn_ri_segment ∈ lw_tbl := ⟨List.mem_of_getElem? (i := 423) (by decide +kernel), List.mem_of_getElem? (i := 50) (by decide +kernel), List.mem_of_getElem? (i := 421) (by decide +kernel), List.mem_of_getElem? (i := 422) (by decide +kernel)⟩
def yn_ri_mark : MethodName := ⟨"OrdinalRink", "mark", "(IIIII)V"⟩
def kc_ri_mark : List (Nat × Jvm.ClassFile.Instr × Nat) := [(0, .aload_n 0, 1), (1, .iload_n 1, 1), (2, .invokevirtual 46, 3), (5, .aload_n 0, 1), (6, .iload_n 2, 1), (7, .invokevirtual 64, 3), (10, .aload_n 0, 1), (11, .iload_n 3, 1), (12, .invokevirtual 67, 3), (15, .aload_n 0, 1), (16, .iload 4, 2), (18, .invokevirtual 70, 3), (21, .aload_n 0, 1), (22, .iload 5, 2), (24, .invokevirtual 70, 3), (27, .aload_n 0, 1), (28, .iload_n 1, 1), (29, .invokevirtual 54, 3), (32, .aload_n 0, 1), (33, .getfield 11, 3), (36, .iload_n 1, 1), (37, .aaload, 1), (38, .iload_n 2, 1), (39, .iload_n 3, 1), (40, .iload 4, 2), (42, .iload 5, 2), (44, .invokevirtual 73, 3), (47, .return_, 1)]
theorem ck_ri_mark : rk_chk prog_1_method_4_code kc_ri_mark = true := by decide +kernel
theorem ww_ri_mark : Cond.code yn_ri_mark prog_1_method_4_code 6 none ∈ lw_tbl ∧ Cond.initialized yn_ri_mark.cls ∈ lw_tbl ∧ Cond.instanceMethod yn_ri_mark ∈ lw_tbl ∧ Cond.selects "OrdinalRink" yn_ri_mark yn_ri_mark ∈ lw_tbl := ⟨List.mem_of_getElem? (i := 472) (by decide +kernel), List.mem_of_getElem? (i := 50) (by decide +kernel), List.mem_of_getElem? (i := 470) (by decide +kernel), List.mem_of_getElem? (i := 471) (by decide +kernel)⟩
def yn_ri_deduct : MethodName := ⟨"OrdinalRink", "deduct", "(IIII)I"⟩
def kc_ri_deduct : List (Nat × Jvm.ClassFile.Instr × Nat) := [(0, .aload_n 0, 1), (1, .iload_n 1, 1), (2, .invokevirtual 46, 3), (5, .aload_n 0, 1), (6, .iload_n 2, 1), (7, .invokevirtual 67, 3), (10, .iload_n 3, 1), (11, .ifCond .eq 18, 3), (14, .iload_n 3, 1), (15, .iconst 1, 1), (16, .if_icmp .eq 13, 3), (19, .new 77, 3), (29, .aload_n 0, 1), (30, .iload 4, 2), (32, .invokevirtual 70, 3), (35, .aload_n 0, 1), (36, .iload_n 1, 1), (37, .invokevirtual 54, 3), (40, .aload_n 0, 1), (41, .getfield 11, 3), (44, .iload_n 1, 1), (45, .aaload, 1), (46, .iload_n 3, 1), (47, .iload_n 2, 1), (48, .iload 4, 2), (50, .invokevirtual 82, 3), (53, .ireturn, 1)]
theorem ck_ri_deduct : rk_chk prog_1_method_5_code kc_ri_deduct = true := by decide +kernel
theorem ww_ri_deduct : Cond.code yn_ri_deduct prog_1_method_5_code 5 (some .int) ∈ lw_tbl ∧ Cond.initialized yn_ri_deduct.cls ∈ lw_tbl ∧ Cond.instanceMethod yn_ri_deduct ∈ lw_tbl ∧ Cond.selects "OrdinalRink" yn_ri_deduct yn_ri_deduct ∈ lw_tbl := ⟨List.mem_of_getElem? (i := 498) (by decide +kernel), List.mem_of_getElem? (i := 50) (by decide +kernel), List.mem_of_getElem? (i := 496) (by decide +kernel), List.mem_of_getElem? (i := 497) (by decide +kernel)⟩
def yn_ri_strike : MethodName := ⟨"OrdinalRink", "strike", "(IIZ)I"⟩
def kc_ri_strike : List (Nat × Jvm.ClassFile.Instr × Nat) := [(0, .aload_n 0, 1), (1, .iload_n 1, 1), (2, .invokevirtual 46, 3), (5, .aload_n 0, 1), (6, .iload_n 2, 1), (7, .invokevirtual 64, 3), (10, .aload_n 0, 1), (11, .iload_n 1, 1), (12, .invokevirtual 54, 3), (15, .aload_n 0, 1), (16, .getfield 11, 3), (19, .iload_n 1, 1), (20, .aaload, 1), (21, .astore 4, 2), (23, .iload_n 3, 1), (24, .ifCond .eq 32, 3), (27, .aload 4, 2), (29, .getfield 86, 3), (32, .iload_n 2, 1), (33, .baload, 1), (34, .ifCond .ne 22, 3), (37, .aload 4, 2), (39, .invokevirtual 90, 3), (42, .iconst 3, 1), (43, .if_icmp .ne 13, 3), (46, .new 94, 3), (56, .aload 4, 2), (58, .getfield 86, 3), (61, .iload_n 2, 1), (62, .iload_n 3, 1), (63, .bastore, 1), (64, .aload 4, 2), (66, .invokevirtual 90, 3), (69, .ireturn, 1)]
theorem ck_ri_strike : rk_chk prog_1_method_6_code kc_ri_strike = true := by decide +kernel
theorem ww_ri_strike : Cond.code yn_ri_strike prog_1_method_6_code 5 (some .int) ∈ lw_tbl ∧ Cond.initialized yn_ri_strike.cls ∈ lw_tbl ∧ Cond.instanceMethod yn_ri_strike ∈ lw_tbl ∧ Cond.selects "OrdinalRink" yn_ri_strike yn_ri_strike ∈ lw_tbl := ⟨List.mem_of_getElem? (i := 510) (by decide +kernel), List.mem_of_getElem? (i := 50) (by decide +kernel), List.mem_of_getElem? (i := 508) (by decide +kernel), List.mem_of_getElem? (i := 509) (by decide +kernel)⟩
def yn_ri_withdraw : MethodName := ⟨"OrdinalRink", "withdraw", "(II)I"⟩
def kc_ri_withdraw : List (Nat × Jvm.ClassFile.Instr × Nat) := [(0, .aload_n 0, 1), (1, .iload_n 1, 1), (2, .invokevirtual 67, 3), (5, .iload_n 2, 1), (6, .ifCond .lt 8, 3), (9, .iload_n 2, 1), (10, .iconst 3, 1), (11, .if_icmp .le 13, 3), (14, .new 37, 3), (24, .aload_n 0, 1), (25, .iload_n 1, 1), (26, .iload_n 2, 1), (27, .invokevirtual 101, 3), (30, .ifCond .eq 13, 3), (33, .new 94, 3), (43, .aload_n 0, 1), (44, .iload_n 1, 1), (45, .invokevirtual 107, 3), (48, .istore_n 3, 1), (49, .iconst 0, 1), (50, .istore 4, 2), (52, .iload 4, 2), (54, .iconst 3, 1), (55, .if_icmp .ge 32, 3), (58, .aload_n 0, 1), (59, .getfield 11, 3), (62, .iload 4, 2), (64, .aaload, 1), (65, .getfield 111, 3), (68, .iload_n 1, 1), (69, .iload 4, 2), (71, .iload_n 2, 1), (72, .if_icmp .ge 7, 3), (75, .iconst 1, 1), (76, .goto 4, 3), (79, .iconst 0, 1), (80, .bastore, 1), (81, .iinc 4 1, 3), (84, .goto (-32), 3), (87, .iload_n 3, 1), (88, .ireturn, 1)]
theorem ck_ri_withdraw : rk_chk prog_1_method_7_code kc_ri_withdraw = true := by decide +kernel
theorem ww_ri_withdraw : Cond.code yn_ri_withdraw prog_1_method_7_code 5 (some .int) ∈ lw_tbl ∧ Cond.initialized yn_ri_withdraw.cls ∈ lw_tbl ∧ Cond.instanceMethod yn_ri_withdraw ∈ lw_tbl ∧ Cond.selects "OrdinalRink" yn_ri_withdraw yn_ri_withdraw ∈ lw_tbl := ⟨List.mem_of_getElem? (i := 522) (by decide +kernel), List.mem_of_getElem? (i := 50) (by decide +kernel), List.mem_of_getElem? (i := 520) (by decide +kernel), List.mem_of_getElem? (i := 521) (by decide +kernel)⟩
def yn_ri_ordinal : MethodName := ⟨"OrdinalRink", "ordinal", "(III)I"⟩
def kc_ri_ordinal : List (Nat × Jvm.ClassFile.Instr × Nat) := [(0, .aload_n 0, 1), (1, .iload_n 1, 1), (2, .invokevirtual 46, 3), (5, .aload_n 0, 1), (6, .iload_n 2, 1), (7, .invokevirtual 64, 3), (10, .aload_n 0, 1), (11, .iload_n 3, 1), (12, .invokevirtual 67, 3), (15, .aload_n 0, 1), (16, .getfield 11, 3), (19, .iload_n 1, 1), (20, .aaload, 1), (21, .iload_n 2, 1), (22, .iload_n 3, 1), (23, .invokevirtual 114, 3), (26, .ireturn, 1)]
theorem ck_ri_ordinal : rk_chk prog_1_method_8_code kc_ri_ordinal = true := by decide +kernel
theorem ww_ri_ordinal : Cond.code yn_ri_ordinal prog_1_method_8_code 4 (some .int) ∈ lw_tbl ∧ Cond.initialized yn_ri_ordinal.cls ∈ lw_tbl ∧ Cond.instanceMethod yn_ri_ordinal ∈ lw_tbl ∧ Cond.selects "OrdinalRink" yn_ri_ordinal yn_ri_ordinal ∈ lw_tbl := ⟨List.mem_of_getElem? (i := 539) (by decide +kernel), List.mem_of_getElem? (i := 50) (by decide +kernel), List.mem_of_getElem? (i := 537) (by decide +kernel), List.mem_of_getElem? (i := 538) (by decide +kernel)⟩
def yn_ri_placing : MethodName := ⟨"OrdinalRink", "placing", "(III)I"⟩
def kc_ri_placing : List (Nat × Jvm.ClassFile.Instr × Nat) := [(0, .aload_n 0, 1), (1, .iload_n 1, 1), (2, .invokevirtual 46, 3), (5, .aload_n 0, 1), (6, .iload_n 2, 1), (7, .invokevirtual 67, 3), (10, .iload_n 3, 1), (11, .ifCond .lt 8, 3), (14, .iload_n 3, 1), (15, .iconst 5, 1), (16, .if_icmp .lt 13, 3), (19, .new 77, 3), (29, .aload_n 0, 1), (30, .getfield 11, 3), (33, .iload_n 1, 1), (34, .aaload, 1), (35, .astore 4, 2), (37, .aload 4, 2), (39, .iload_n 2, 1), (40, .invokevirtual 120, 3), (43, .ifCond .eq 15, 3), (46, .aload 4, 2), (48, .getfield 124, 3), (51, .iload_n 3, 1), (52, .aaload, 1), (53, .iload_n 2, 1), (54, .iaload, 1), (55, .goto 4, 3), (58, .iconst (-1), 1), (59, .ireturn, 1)]
theorem ck_ri_placing : rk_chk prog_1_method_9_code kc_ri_placing = true := by decide +kernel
theorem ww_ri_placing : Cond.code yn_ri_placing prog_1_method_9_code 5 (some .int) ∈ lw_tbl ∧ Cond.initialized yn_ri_placing.cls ∈ lw_tbl ∧ Cond.instanceMethod yn_ri_placing ∈ lw_tbl ∧ Cond.selects "OrdinalRink" yn_ri_placing yn_ri_placing ∈ lw_tbl := ⟨List.mem_of_getElem? (i := 563) (by decide +kernel), List.mem_of_getElem? (i := 50) (by decide +kernel), List.mem_of_getElem? (i := 561) (by decide +kernel), List.mem_of_getElem? (i := 562) (by decide +kernel)⟩
def yn_ri_step : MethodName := ⟨"OrdinalRink", "step", "(III)I"⟩
def kc_ri_step : List (Nat × Jvm.ClassFile.Instr × Nat) := [(0, .aload_n 0, 1), (1, .iload_n 1, 1), (2, .invokevirtual 46, 3), (5, .aload_n 0, 1), (6, .iload_n 2, 1), (7, .invokevirtual 67, 3), (10, .aload_n 0, 1), (11, .iload_n 3, 1), (12, .invokevirtual 67, 3), (15, .aload_n 0, 1), (16, .getfield 11, 3), (19, .iload_n 1, 1), (20, .aaload, 1), (21, .astore 4, 2), (23, .aload 4, 2), (25, .getfield 111, 3), (28, .iload_n 3, 1), (29, .baload, 1), (30, .ifCond .eq 12, 3), (33, .aload 4, 2), (35, .iload_n 2, 1), (36, .invokevirtual 120, 3), (39, .ifCond .ne 5, 3), (42, .iconst (-1), 1), (43, .ireturn, 1), (44, .aload 4, 2), (46, .iload_n 2, 1), (47, .iload_n 3, 1), (48, .invokevirtual 128, 3), (51, .ireturn, 1)]
theorem ck_ri_step : rk_chk prog_1_method_10_code kc_ri_step = true := by decide +kernel
theorem ww_ri_step : Cond.code yn_ri_step prog_1_method_10_code 5 (some .int) ∈ lw_tbl ∧ Cond.initialized yn_ri_step.cls ∈ lw_tbl ∧ Cond.instanceMethod yn_ri_step ∈ lw_tbl ∧ Cond.selects "OrdinalRink" yn_ri_step yn_ri_step ∈ lw_tbl := ⟨List.mem_of_getElem? (i := 612) (by decide +kernel), List.mem_of_getElem? (i := 50) (by decide +kernel), List.mem_of_getElem? (i := 610) (by decide +kernel), List.mem_of_getElem? (i := 611) (by decide +kernel)⟩
def yn_ri_needed : MethodName := ⟨"OrdinalRink", "needed", "(III)I"⟩
def kc_ri_needed : List (Nat × Jvm.ClassFile.Instr × Nat) := [(0, .aload_n 0, 1), (1, .iload_n 1, 1), (2, .invokevirtual 46, 3), (5, .aload_n 0, 1), (6, .iload_n 2, 1), (7, .invokevirtual 67, 3), (10, .iload_n 3, 1), (11, .iconst 1, 1), (12, .if_icmp .lt 9, 3), (15, .iload_n 3, 1), (16, .bipush 10, 2), (18, .if_icmp .le 13, 3), (21, .new 37, 3), (31, .aload_n 0, 1), (32, .getfield 11, 3), (35, .iload_n 1, 1), (36, .aaload, 1), (37, .iload_n 2, 1), (38, .iconst 2, 1), (39, .iload_n 3, 1), (40, .imul, 1), (41, .invokevirtual 133, 3), (44, .ireturn, 1)]
theorem ck_ri_needed : rk_chk prog_1_method_11_code kc_ri_needed = true := by decide +kernel
theorem ww_ri_needed : Cond.code yn_ri_needed prog_1_method_11_code 4 (some .int) ∈ lw_tbl ∧ Cond.initialized yn_ri_needed.cls ∈ lw_tbl ∧ Cond.instanceMethod yn_ri_needed ∈ lw_tbl ∧ Cond.selects "OrdinalRink" yn_ri_needed yn_ri_needed ∈ lw_tbl := ⟨List.mem_of_getElem? (i := 620) (by decide +kernel), List.mem_of_getElem? (i := 50) (by decide +kernel), List.mem_of_getElem? (i := 618) (by decide +kernel), List.mem_of_getElem? (i := 619) (by decide +kernel)⟩
def yn_ri_publish : MethodName := ⟨"OrdinalRink", "publish", "(I)I"⟩
def kc_ri_publish : List (Nat × Jvm.ClassFile.Instr × Nat) := [(0, .aload_n 0, 1), (1, .iload_n 1, 1), (2, .invokevirtual 46, 3), (5, .aload_n 0, 1), (6, .iload_n 1, 1), (7, .invokevirtual 54, 3), (10, .aload_n 0, 1), (11, .getfield 11, 3), (14, .iload_n 1, 1), (15, .aaload, 1), (16, .astore_n 2, 1), (17, .aload_n 2, 1), (18, .invokevirtual 136, 3), (21, .ifCond .ne 13, 3), (24, .new 94, 3), (34, .aload_n 2, 1), (35, .iconst 1, 1), (36, .putfield 142, 3), (39, .aload_n 2, 1), (40, .invokevirtual 146, 3), (43, .ireturn, 1)]
theorem ck_ri_publish : rk_chk prog_1_method_12_code kc_ri_publish = true := by decide +kernel
theorem ww_ri_publish : Cond.code yn_ri_publish prog_1_method_12_code 3 (some .int) ∈ lw_tbl ∧ Cond.initialized yn_ri_publish.cls ∈ lw_tbl ∧ Cond.instanceMethod yn_ri_publish ∈ lw_tbl ∧ Cond.selects "OrdinalRink" yn_ri_publish yn_ri_publish ∈ lw_tbl := ⟨List.mem_of_getElem? (i := 646) (by decide +kernel), List.mem_of_getElem? (i := 50) (by decide +kernel), List.mem_of_getElem? (i := 644) (by decide +kernel), List.mem_of_getElem? (i := 645) (by decide +kernel)⟩
def yn_ri_total : MethodName := ⟨"OrdinalRink", "total", "(I)I"⟩
def kc_ri_total : List (Nat × Jvm.ClassFile.Instr × Nat) := [(0, .aload_n 0, 1), (1, .iload_n 1, 1), (2, .invokevirtual 67, 3), (5, .aload_n 0, 1), (6, .invokevirtual 149, 3), (9, .pop, 1), (10, .aload_n 0, 1), (11, .iload_n 1, 1), (12, .invokevirtual 152, 3), (15, .ireturn, 1)]
theorem ck_ri_total : rk_chk prog_1_method_13_code kc_ri_total = true := by decide +kernel
theorem ww_ri_total : Cond.code yn_ri_total prog_1_method_13_code 2 (some .int) ∈ lw_tbl ∧ Cond.initialized yn_ri_total.cls ∈ lw_tbl ∧ Cond.instanceMethod yn_ri_total ∈ lw_tbl ∧ Cond.selects "OrdinalRink" yn_ri_total yn_ri_total ∈ lw_tbl := ⟨List.mem_of_getElem? (i := 656) (by decide +kernel), List.mem_of_getElem? (i := 50) (by decide +kernel), List.mem_of_getElem? (i := 654) (by decide +kernel), List.mem_of_getElem? (i := 655) (by decide +kernel)⟩
def yn_ri_rank : MethodName := ⟨"OrdinalRink", "rank", "(I)I"⟩
def kc_ri_rank : List (Nat × Jvm.ClassFile.Instr × Nat) := [(0, .aload_n 0, 1), (1, .iload_n 1, 1), (2, .invokevirtual 67, 3), (5, .aload_n 0, 1), (6, .invokevirtual 149, 3), (9, .ifCond .ne 5, 3), (12, .iconst (-1), 1), (13, .ireturn, 1), (14, .iconst 0, 1), (15, .istore_n 2, 1), (16, .iconst 0, 1), (17, .istore_n 3, 1), (18, .iload_n 3, 1), (19, .aload_n 0, 1), (20, .getfield 155, 3), (23, .if_icmp .ge 21, 3), (26, .aload_n 0, 1), (27, .iload_n 3, 1), (28, .iload_n 1, 1), (29, .invokevirtual 158, 3), (32, .ifCond .eq 6, 3), (35, .iinc 2 1, 3), (38, .iinc 3 1, 3), (41, .goto (-23), 3), (44, .iconst 1, 1), (45, .iload_n 2, 1), (46, .iadd, 1), (47, .ireturn, 1)]
theorem ck_ri_rank : rk_chk prog_1_method_14_code kc_ri_rank = true := by decide +kernel
theorem ww_ri_rank : Cond.code yn_ri_rank prog_1_method_14_code 4 (some .int) ∈ lw_tbl ∧ Cond.initialized yn_ri_rank.cls ∈ lw_tbl ∧ Cond.instanceMethod yn_ri_rank ∈ lw_tbl ∧ Cond.selects "OrdinalRink" yn_ri_rank yn_ri_rank ∈ lw_tbl := ⟨List.mem_of_getElem? (i := 672) (by decide +kernel), List.mem_of_getElem? (i := 50) (by decide +kernel), List.mem_of_getElem? (i := 670) (by decide +kernel), List.mem_of_getElem? (i := 671) (by decide +kernel)⟩
def yn_ri_proof : MethodName := ⟨"OrdinalRink", "proof", "(II)I"⟩
def kc_ri_proof : List (Nat × Jvm.ClassFile.Instr × Nat) := [(0, .aload_n 0, 1), (1, .iload_n 1, 1), (2, .invokevirtual 46, 3), (5, .aload_n 0, 1), (6, .iload_n 2, 1), (7, .invokevirtual 67, 3), (10, .aload_n 0, 1), (11, .getfield 11, 3), (14, .iload_n 1, 1), (15, .aaload, 1), (16, .astore_n 3, 1), (17, .aload_n 3, 1), (18, .iload_n 2, 1), (19, .invokevirtual 120, 3), (22, .ifCond .ne 13, 3), (25, .new 94, 3), (35, .aload_n 0, 1), (36, .getfield 18, 3), (39, .iconst 0, 1), (40, .invokevirtual 163, 3), (43, .aload_n 0, 1), (44, .getfield 18, 3), (47, .iload_n 2, 1), (48, .invokevirtual 166, 3), (51, .pop, 1), (52, .iconst 0, 1), (53, .istore 4, 2), (55, .iload 4, 2), (57, .iconst 5, 1), (58, .if_icmp .ge 31, 3), (61, .aload_n 0, 1), (62, .getfield 18, 3), (65, .bipush 32, 2), (67, .invokevirtual 170, 3), (70, .aload_n 3, 1), (71, .getfield 124, 3), (74, .iload 4, 2), (76, .aaload, 1), (77, .iload_n 2, 1), (78, .iaload, 1), (79, .invokevirtual 166, 3), (82, .pop, 1), (83, .iinc 4 1, 3), (86, .goto (-31), 3), (89, .aload_n 0, 1), (90, .getfield 18, 3), (93, .invokevirtual 173, 3), (96, .ireturn, 1)]
theorem ck_ri_proof : rk_chk prog_1_method_15_code kc_ri_proof = true := by decide +kernel
theorem ww_ri_proof : Cond.code yn_ri_proof prog_1_method_15_code 5 (some .int) ∈ lw_tbl ∧ Cond.initialized yn_ri_proof.cls ∈ lw_tbl ∧ Cond.instanceMethod yn_ri_proof ∈ lw_tbl ∧ Cond.selects "OrdinalRink" yn_ri_proof yn_ri_proof ∈ lw_tbl := ⟨List.mem_of_getElem? (i := 691) (by decide +kernel), List.mem_of_getElem? (i := 50) (by decide +kernel), List.mem_of_getElem? (i := 689) (by decide +kernel), List.mem_of_getElem? (i := 690) (by decide +kernel)⟩
def yn_ri_type : MethodName := ⟨"OrdinalRink", "type", "(C)Z"⟩
def kc_ri_type : List (Nat × Jvm.ClassFile.Instr × Nat) := [(0, .iload_n 1, 1), (1, .bipush 32, 2), (3, .if_icmp .lt 21, 3), (6, .iload_n 1, 1), (7, .bipush 126, 2), (9, .if_icmp .gt 15, 3), (12, .aload_n 0, 1), (13, .getfield 22, 3), (16, .invokevirtual 173, 3), (19, .bipush 40, 2), (21, .if_icmp .lt 5, 3), (24, .iconst 0, 1), (25, .ireturn, 1), (26, .aload_n 0, 1), (27, .getfield 22, 3), (30, .iload_n 1, 1), (31, .invokevirtual 170, 3), (34, .pop, 1), (35, .iconst 1, 1), (36, .ireturn, 1)]
theorem ck_ri_type : rk_chk prog_1_method_16_code kc_ri_type = true := by decide +kernel
theorem ww_ri_type : Cond.code yn_ri_type prog_1_method_16_code 2 (some .boolean) ∈ lw_tbl ∧ Cond.initialized yn_ri_type.cls ∈ lw_tbl ∧ Cond.instanceMethod yn_ri_type ∈ lw_tbl ∧ Cond.selects "OrdinalRink" yn_ri_type yn_ri_type ∈ lw_tbl := ⟨List.mem_of_getElem? (i := 214) (by decide +kernel), List.mem_of_getElem? (i := 50) (by decide +kernel), List.mem_of_getElem? (i := 212) (by decide +kernel), List.mem_of_getElem? (i := 213) (by decide +kernel)⟩
def yn_ri_check : MethodName := ⟨"OrdinalRink", "check", "(I)I"⟩
def kc_ri_check : List (Nat × Jvm.ClassFile.Instr × Nat) := [(0, .aload_n 0, 1), (1, .iload_n 1, 1), (2, .invokevirtual 46, 3), (5, .aload_n 0, 1), (6, .getfield 28, 3), (9, .aload_n 0, 1), (10, .getfield 22, 3), (13, .invokevirtual 176, 3), (16, .istore_n 2, 1), (17, .aload_n 0, 1), (18, .getfield 22, 3), (21, .iconst 0, 1), (22, .invokevirtual 163, 3), (25, .iload_n 2, 1), (26, .iconst (-1), 1), (27, .if_icmp .eq 7, 3), (30, .iconst (-1), 1), (31, .iload_n 2, 1), (32, .isub, 1), (33, .ireturn, 1), (34, .aload_n 0, 1), (35, .aload_n 0, 1), (36, .getfield 11, 3), (39, .iload_n 1, 1), (40, .aaload, 1), (41, .invokevirtual 180, 3), (44, .ifCond .eq 7, 3), (47, .iconst 1, 1), (48, .goto 4, 3), (51, .iconst 0, 1), (52, .ireturn, 1)]
theorem ck_ri_check : rk_chk prog_1_method_17_code kc_ri_check = true := by decide +kernel
theorem ww_ri_check : Cond.code yn_ri_check prog_1_method_17_code 3 (some .int) ∈ lw_tbl ∧ Cond.initialized yn_ri_check.cls ∈ lw_tbl ∧ Cond.instanceMethod yn_ri_check ∈ lw_tbl ∧ Cond.selects "OrdinalRink" yn_ri_check yn_ri_check ∈ lw_tbl := ⟨List.mem_of_getElem? (i := 889) (by decide +kernel), List.mem_of_getElem? (i := 50) (by decide +kernel), List.mem_of_getElem? (i := 887) (by decide +kernel), List.mem_of_getElem? (i := 888) (by decide +kernel)⟩
def yn_ri_length : MethodName := ⟨"OrdinalRink", "length", "()I"⟩
def kc_ri_length : List (Nat × Jvm.ClassFile.Instr × Nat) := [(0, .aload_n 0, 1), (1, .getfield 18, 3), (4, .invokevirtual 173, 3), (7, .ireturn, 1)]
theorem ck_ri_length : rk_chk prog_1_method_18_code kc_ri_length = true := by decide +kernel
theorem ww_ri_length : Cond.code yn_ri_length prog_1_method_18_code 1 (some .int) ∈ lw_tbl ∧ Cond.initialized yn_ri_length.cls ∈ lw_tbl ∧ Cond.instanceMethod yn_ri_length ∈ lw_tbl ∧ Cond.selects "OrdinalRink" yn_ri_length yn_ri_length ∈ lw_tbl := ⟨List.mem_of_getElem? (i := 320) (by decide +kernel), List.mem_of_getElem? (i := 50) (by decide +kernel), List.mem_of_getElem? (i := 318) (by decide +kernel), List.mem_of_getElem? (i := 319) (by decide +kernel)⟩
def yn_ri_charAt : MethodName := ⟨"OrdinalRink", "charAt", "(I)C"⟩
def kc_ri_charAt : List (Nat × Jvm.ClassFile.Instr × Nat) := [(0, .iload_n 1, 1), (1, .ifCond .lt 25, 3), (4, .iload_n 1, 1), (5, .aload_n 0, 1), (6, .getfield 18, 3), (9, .invokevirtual 173, 3), (12, .if_icmp .ge 14, 3), (15, .aload_n 0, 1), (16, .getfield 18, 3), (19, .iload_n 1, 1), (20, .invokevirtual 184, 3), (23, .goto 5, 3), (26, .bipush 32, 2), (28, .ireturn, 1)]
theorem ck_ri_charAt : rk_chk prog_1_method_19_code kc_ri_charAt = true := by decide +kernel
theorem ww_ri_charAt : Cond.code yn_ri_charAt prog_1_method_19_code 2 (some .char) ∈ lw_tbl ∧ Cond.initialized yn_ri_charAt.cls ∈ lw_tbl ∧ Cond.instanceMethod yn_ri_charAt ∈ lw_tbl ∧ Cond.selects "OrdinalRink" yn_ri_charAt yn_ri_charAt ∈ lw_tbl := ⟨List.mem_of_getElem? (i := 324) (by decide +kernel), List.mem_of_getElem? (i := 50) (by decide +kernel), List.mem_of_getElem? (i := 322) (by decide +kernel), List.mem_of_getElem? (i := 323) (by decide +kernel)⟩
def yn_ri_openEvent : MethodName := ⟨"OrdinalRink", "openEvent", "(II)V"⟩
def kc_ri_openEvent : List (Nat × Jvm.ClassFile.Instr × Nat) := [(0, .aload_n 0, 1), (1, .iload_n 1, 1), (2, .putfield 155, 3), (5, .aload_n 0, 1), (6, .iload_n 2, 1), (7, .putfield 188, 3), (10, .iconst 0, 1), (11, .istore_n 3, 1), (12, .iload_n 3, 1), (13, .iconst 3, 1), (14, .if_icmp .ge 57, 3), (17, .aload_n 0, 1), (18, .getfield 11, 3), (21, .iload_n 3, 1), (22, .aaload, 1), (23, .iload_n 1, 1), (24, .iload_n 2, 1), (25, .invokevirtual 191, 3), (28, .aload_n 0, 1), (29, .getfield 11, 3), (32, .iload_n 3, 1), (33, .aaload, 1), (34, .iload_n 3, 1), (35, .ifCond .ne 7, 3), (38, .iconst 0, 1), (39, .goto 4, 3), (42, .iconst 1, 1), (43, .putfield 57, 3), (46, .aload_n 0, 1), (47, .getfield 11, 3), (50, .iload_n 3, 1), (51, .aaload, 1), (52, .iload_n 3, 1), (53, .ifCond .ne 7, 3), (56, .iconst 5, 1), (57, .goto 5, 3), (60, .bipush 10, 2), (62, .putfield 61, 3), (65, .iinc 3 1, 3), (68, .goto (-56), 3), (71, .return_, 1)]
theorem ck_ri_openEvent : rk_chk prog_1_method_20_code kc_ri_openEvent = true := by decide +kernel
theorem ww_ri_openEvent : Cond.code yn_ri_openEvent prog_1_method_20_code 4 none ∈ lw_tbl ∧ Cond.initialized yn_ri_openEvent.cls ∈ lw_tbl ∧ Cond.instanceMethod yn_ri_openEvent ∈ lw_tbl ∧ Cond.selects "OrdinalRink" yn_ri_openEvent yn_ri_openEvent ∈ lw_tbl := ⟨List.mem_of_getElem? (i := 184) (by decide +kernel), List.mem_of_getElem? (i := 50) (by decide +kernel), List.mem_of_getElem? (i := 183) (by decide +kernel), List.mem_of_getElem? (i := 0) (by decide +kernel)⟩
def yn_ri_requireSegment : MethodName := ⟨"OrdinalRink", "requireSegment", "(I)V"⟩
def kc_ri_requireSegment : List (Nat × Jvm.ClassFile.Instr × Nat) := [(0, .iload_n 1, 1), (1, .ifCond .lt 8, 3), (4, .iload_n 1, 1), (5, .iconst 3, 1), (6, .if_icmp .lt 13, 3), (9, .new 77, 3), (19, .return_, 1)]
theorem ck_ri_requireSegment : rk_chk prog_1_method_21_code kc_ri_requireSegment = true := by decide +kernel
theorem ww_ri_requireSegment : Cond.code yn_ri_requireSegment prog_1_method_21_code 2 none ∈ lw_tbl ∧ Cond.initialized yn_ri_requireSegment.cls ∈ lw_tbl ∧ Cond.instanceMethod yn_ri_requireSegment ∈ lw_tbl ∧ Cond.selects "OrdinalRink" yn_ri_requireSegment yn_ri_requireSegment ∈ lw_tbl := ⟨List.mem_of_getElem? (i := 427) (by decide +kernel), List.mem_of_getElem? (i := 50) (by decide +kernel), List.mem_of_getElem? (i := 426) (by decide +kernel), List.mem_of_getElem? (i := 2) (by decide +kernel)⟩
def yn_ri_requireJudge : MethodName := ⟨"OrdinalRink", "requireJudge", "(I)V"⟩
def kc_ri_requireJudge : List (Nat × Jvm.ClassFile.Instr × Nat) := [(0, .iload_n 1, 1), (1, .ifCond .lt 11, 3), (4, .iload_n 1, 1), (5, .aload_n 0, 1), (6, .getfield 188, 3), (9, .if_icmp .lt 13, 3), (12, .new 77, 3), (22, .return_, 1)]
theorem ck_ri_requireJudge : rk_chk prog_1_method_22_code kc_ri_requireJudge = true := by decide +kernel
theorem ww_ri_requireJudge : Cond.code yn_ri_requireJudge prog_1_method_22_code 2 none ∈ lw_tbl ∧ Cond.initialized yn_ri_requireJudge.cls ∈ lw_tbl ∧ Cond.instanceMethod yn_ri_requireJudge ∈ lw_tbl ∧ Cond.selects "OrdinalRink" yn_ri_requireJudge yn_ri_requireJudge ∈ lw_tbl := ⟨List.mem_of_getElem? (i := 476) (by decide +kernel), List.mem_of_getElem? (i := 50) (by decide +kernel), List.mem_of_getElem? (i := 475) (by decide +kernel), List.mem_of_getElem? (i := 4) (by decide +kernel)⟩
def yn_ri_requireSkater : MethodName := ⟨"OrdinalRink", "requireSkater", "(I)V"⟩
def kc_ri_requireSkater : List (Nat × Jvm.ClassFile.Instr × Nat) := [(0, .iload_n 1, 1), (1, .ifCond .lt 11, 3), (4, .iload_n 1, 1), (5, .aload_n 0, 1), (6, .getfield 155, 3), (9, .if_icmp .lt 13, 3), (12, .new 77, 3), (22, .return_, 1)]
theorem ck_ri_requireSkater : rk_chk prog_1_method_23_code kc_ri_requireSkater = true := by decide +kernel
theorem ww_ri_requireSkater : Cond.code yn_ri_requireSkater prog_1_method_23_code 2 none ∈ lw_tbl ∧ Cond.initialized yn_ri_requireSkater.cls ∈ lw_tbl ∧ Cond.instanceMethod yn_ri_requireSkater ∈ lw_tbl ∧ Cond.selects "OrdinalRink" yn_ri_requireSkater yn_ri_requireSkater ∈ lw_tbl := ⟨List.mem_of_getElem? (i := 481) (by decide +kernel), List.mem_of_getElem? (i := 50) (by decide +kernel), List.mem_of_getElem? (i := 480) (by decide +kernel), List.mem_of_getElem? (i := 5) (by decide +kernel)⟩
def yn_ri_requireNumber : MethodName := ⟨"OrdinalRink", "requireNumber", "(I)V"⟩
def kc_ri_requireNumber : List (Nat × Jvm.ClassFile.Instr × Nat) := [(0, .iload_n 1, 1), (1, .ifCond .lt 9, 3), (4, .iload_n 1, 1), (5, .bipush 60, 2), (7, .if_icmp .le 13, 3), (10, .new 37, 3), (20, .return_, 1)]
theorem ck_ri_requireNumber : rk_chk prog_1_method_24_code kc_ri_requireNumber = true := by decide +kernel
theorem ww_ri_requireNumber : Cond.code yn_ri_requireNumber prog_1_method_24_code 2 none ∈ lw_tbl ∧ Cond.initialized yn_ri_requireNumber.cls ∈ lw_tbl ∧ Cond.instanceMethod yn_ri_requireNumber ∈ lw_tbl ∧ Cond.selects "OrdinalRink" yn_ri_requireNumber yn_ri_requireNumber ∈ lw_tbl := ⟨List.mem_of_getElem? (i := 486) (by decide +kernel), List.mem_of_getElem? (i := 50) (by decide +kernel), List.mem_of_getElem? (i := 485) (by decide +kernel), List.mem_of_getElem? (i := 6) (by decide +kernel)⟩
def yn_ri_requireOpen : MethodName := ⟨"OrdinalRink", "requireOpen", "(I)V"⟩
def kc_ri_requireOpen : List (Nat × Jvm.ClassFile.Instr × Nat) := [(0, .aload_n 0, 1), (1, .getfield 11, 3), (4, .iload_n 1, 1), (5, .aaload, 1), (6, .getfield 142, 3), (9, .ifCond .eq 13, 3), (12, .new 94, 3), (22, .return_, 1)]
theorem ck_ri_requireOpen : rk_chk prog_1_method_25_code kc_ri_requireOpen = true := by decide +kernel
theorem ww_ri_requireOpen : Cond.code yn_ri_requireOpen prog_1_method_25_code 2 none ∈ lw_tbl ∧ Cond.initialized yn_ri_requireOpen.cls ∈ lw_tbl ∧ Cond.instanceMethod yn_ri_requireOpen ∈ lw_tbl ∧ Cond.selects "OrdinalRink" yn_ri_requireOpen yn_ri_requireOpen ∈ lw_tbl := ⟨List.mem_of_getElem? (i := 449) (by decide +kernel), List.mem_of_getElem? (i := 50) (by decide +kernel), List.mem_of_getElem? (i := 448) (by decide +kernel), List.mem_of_getElem? (i := 3) (by decide +kernel)⟩
def yn_ri_changesPublishedStarters : MethodName := ⟨"OrdinalRink", "changesPublishedStarters", "(II)Z"⟩
def kc_ri_changesPublishedStarters : List (Nat × Jvm.ClassFile.Instr × Nat) := [(0, .iconst 0, 1), (1, .istore_n 3, 1), (2, .iload_n 3, 1), (3, .iconst 3, 1), (4, .if_icmp .ge 47, 3), (7, .aload_n 0, 1), (8, .getfield 11, 3), (11, .iload_n 3, 1), (12, .aaload, 1), (13, .getfield 142, 3), (16, .ifCond .eq 29, 3), (19, .aload_n 0, 1), (20, .getfield 11, 3), (23, .iload_n 3, 1), (24, .aaload, 1), (25, .getfield 111, 3), (28, .iload_n 1, 1), (29, .baload, 1), (30, .iload_n 3, 1), (31, .iload_n 2, 1), (32, .if_icmp .ge 7, 3), (35, .iconst 1, 1), (36, .goto 4, 3), (39, .iconst 0, 1), (40, .if_icmp .eq 5, 3), (43, .iconst 1, 1), (44, .ireturn, 1), (45, .iinc 3 1, 3), (48, .goto (-46), 3), (51, .iconst 0, 1), (52, .ireturn, 1)]
theorem ck_ri_changesPublishedStarters : rk_chk prog_1_method_26_code kc_ri_changesPublishedStarters = true := by decide +kernel
theorem ww_ri_changesPublishedStarters : Cond.code yn_ri_changesPublishedStarters prog_1_method_26_code 4 (some .boolean) ∈ lw_tbl ∧ Cond.initialized yn_ri_changesPublishedStarters.cls ∈ lw_tbl ∧ Cond.instanceMethod yn_ri_changesPublishedStarters ∈ lw_tbl ∧ Cond.selects "OrdinalRink" yn_ri_changesPublishedStarters yn_ri_changesPublishedStarters ∈ lw_tbl := ⟨List.mem_of_getElem? (i := 527) (by decide +kernel), List.mem_of_getElem? (i := 50) (by decide +kernel), List.mem_of_getElem? (i := 526) (by decide +kernel), List.mem_of_getElem? (i := 7) (by decide +kernel)⟩
def yn_ri_firstSegmentWithout : MethodName := ⟨"OrdinalRink", "firstSegmentWithout", "(I)I"⟩
def kc_ri_firstSegmentWithout : List (Nat × Jvm.ClassFile.Instr × Nat) := [(0, .iconst 0, 1), (1, .istore_n 2, 1), (2, .iload_n 2, 1), (3, .iconst 3, 1), (4, .if_icmp .ge 23, 3), (7, .aload_n 0, 1), (8, .getfield 11, 3), (11, .iload_n 2, 1), (12, .aaload, 1), (13, .getfield 111, 3), (16, .iload_n 1, 1), (17, .baload, 1), (18, .ifCond .eq 9, 3), (21, .iinc 2 1, 3), (24, .goto (-22), 3), (27, .iload_n 2, 1), (28, .ireturn, 1)]
theorem ck_ri_firstSegmentWithout : rk_chk prog_1_method_27_code kc_ri_firstSegmentWithout = true := by decide +kernel
theorem ww_ri_firstSegmentWithout : Cond.code yn_ri_firstSegmentWithout prog_1_method_27_code 3 (some .int) ∈ lw_tbl ∧ Cond.initialized yn_ri_firstSegmentWithout.cls ∈ lw_tbl ∧ Cond.instanceMethod yn_ri_firstSegmentWithout ∈ lw_tbl ∧ Cond.selects "OrdinalRink" yn_ri_firstSegmentWithout yn_ri_firstSegmentWithout ∈ lw_tbl := ⟨List.mem_of_getElem? (i := 532) (by decide +kernel), List.mem_of_getElem? (i := 50) (by decide +kernel), List.mem_of_getElem? (i := 531) (by decide +kernel), List.mem_of_getElem? (i := 8) (by decide +kernel)⟩
def yn_ri_settlePublished : MethodName := ⟨"OrdinalRink", "settlePublished", "()Z"⟩
def kc_ri_settlePublished : List (Nat × Jvm.ClassFile.Instr × Nat) := [(0, .iconst 0, 1), (1, .istore_n 1, 1), (2, .iconst 0, 1), (3, .istore_n 2, 1), (4, .iload_n 2, 1), (5, .iconst 3, 1), (6, .if_icmp .ge 33, 3), (9, .aload_n 0, 1), (10, .getfield 11, 3), (13, .iload_n 2, 1), (14, .aaload, 1), (15, .getfield 142, 3), (18, .ifCond .eq 15, 3), (21, .aload_n 0, 1), (22, .getfield 11, 3), (25, .iload_n 2, 1), (26, .aaload, 1), (27, .invokevirtual 204, 3), (30, .pop, 1), (31, .iconst 1, 1), (32, .istore_n 1, 1), (33, .iinc 2 1, 3), (36, .goto (-32), 3), (39, .iload_n 1, 1), (40, .ireturn, 1)]
theorem ck_ri_settlePublished : rk_chk prog_1_method_28_code kc_ri_settlePublished = true := by decide +kernel
theorem ww_ri_settlePublished : Cond.code yn_ri_settlePublished prog_1_method_28_code 3 (some .boolean) ∈ lw_tbl ∧ Cond.initialized yn_ri_settlePublished.cls ∈ lw_tbl ∧ Cond.instanceMethod yn_ri_settlePublished ∈ lw_tbl ∧ Cond.selects "OrdinalRink" yn_ri_settlePublished yn_ri_settlePublished ∈ lw_tbl := ⟨List.mem_of_getElem? (i := 660) (by decide +kernel), List.mem_of_getElem? (i := 50) (by decide +kernel), List.mem_of_getElem? (i := 659) (by decide +kernel), List.mem_of_getElem? (i := 20) (by decide +kernel)⟩
def yn_ri_settledTotal : MethodName := ⟨"OrdinalRink", "settledTotal", "(I)I"⟩
def kc_ri_settledTotal : List (Nat × Jvm.ClassFile.Instr × Nat) := [(0, .iconst 0, 1), (1, .istore_n 2, 1), (2, .iconst 0, 1), (3, .istore_n 3, 1), (4, .iload_n 3, 1), (5, .iconst 3, 1), (6, .if_icmp .ge 61, 3), (9, .aload_n 0, 1), (10, .getfield 11, 3), (13, .iload_n 3, 1), (14, .aaload, 1), (15, .getfield 142, 3), (18, .ifCond .eq 43, 3), (21, .aload_n 0, 1), (22, .getfield 11, 3), (25, .iload_n 3, 1), (26, .aaload, 1), (27, .getfield 111, 3), (30, .iload_n 1, 1), (31, .baload, 1), (32, .ifCond .eq 29, 3), (35, .iload_n 2, 1), (36, .aload_n 0, 1), (37, .getfield 11, 3), (40, .iload_n 3, 1), (41, .aaload, 1), (42, .getfield 61, 3), (45, .aload_n 0, 1), (46, .getfield 11, 3), (49, .iload_n 3, 1), (50, .aaload, 1), (51, .getfield 124, 3), (54, .iconst 4, 1), (55, .aaload, 1), (56, .iload_n 1, 1), (57, .iaload, 1), (58, .imul, 1), (59, .iadd, 1), (60, .istore_n 2, 1), (61, .iinc 3 1, 3), (64, .goto (-60), 3), (67, .iload_n 2, 1), (68, .ireturn, 1)]
theorem ck_ri_settledTotal : rk_chk prog_1_method_29_code kc_ri_settledTotal = true := by decide +kernel
theorem ww_ri_settledTotal : Cond.code yn_ri_settledTotal prog_1_method_29_code 4 (some .int) ∈ lw_tbl ∧ Cond.initialized yn_ri_settledTotal.cls ∈ lw_tbl ∧ Cond.instanceMethod yn_ri_settledTotal ∈ lw_tbl ∧ Cond.selects "OrdinalRink" yn_ri_settledTotal yn_ri_settledTotal ∈ lw_tbl := ⟨List.mem_of_getElem? (i := 665) (by decide +kernel), List.mem_of_getElem? (i := 50) (by decide +kernel), List.mem_of_getElem? (i := 664) (by decide +kernel), List.mem_of_getElem? (i := 21) (by decide +kernel)⟩
def yn_ri_publishedStarts : MethodName := ⟨"OrdinalRink", "publishedStarts", "(I)I"⟩
def kc_ri_publishedStarts : List (Nat × Jvm.ClassFile.Instr × Nat) := [(0, .iconst 0, 1), (1, .istore_n 2, 1), (2, .iconst 0, 1), (3, .istore_n 3, 1), (4, .iload_n 3, 1), (5, .iconst 3, 1), (6, .if_icmp .ge 38, 3), (9, .aload_n 0, 1), (10, .getfield 11, 3), (13, .iload_n 3, 1), (14, .aaload, 1), (15, .getfield 142, 3), (18, .ifCond .eq 20, 3), (21, .aload_n 0, 1), (22, .getfield 11, 3), (25, .iload_n 3, 1), (26, .aaload, 1), (27, .getfield 111, 3), (30, .iload_n 1, 1), (31, .baload, 1), (32, .ifCond .eq 6, 3), (35, .iinc 2 1, 3), (38, .iinc 3 1, 3), (41, .goto (-37), 3), (44, .iload_n 2, 1), (45, .ireturn, 1)]
theorem ck_ri_publishedStarts : rk_chk prog_1_method_30_code kc_ri_publishedStarts = true := by decide +kernel
theorem ww_ri_publishedStarts : Cond.code yn_ri_publishedStarts prog_1_method_30_code 4 (some .int) ∈ lw_tbl ∧ Cond.initialized yn_ri_publishedStarts.cls ∈ lw_tbl ∧ Cond.instanceMethod yn_ri_publishedStarts ∈ lw_tbl ∧ Cond.selects "OrdinalRink" yn_ri_publishedStarts yn_ri_publishedStarts ∈ lw_tbl := ⟨List.mem_of_getElem? (i := 680) (by decide +kernel), List.mem_of_getElem? (i := 50) (by decide +kernel), List.mem_of_getElem? (i := 679) (by decide +kernel), List.mem_of_getElem? (i := 23) (by decide +kernel)⟩
def yn_ri_ranksBefore : MethodName := ⟨"OrdinalRink", "ranksBefore", "(II)Z"⟩
def kc_ri_ranksBefore : List (Nat × Jvm.ClassFile.Instr × Nat) := [(0, .aload_n 0, 1), (1, .iload_n 1, 1), (2, .invokevirtual 207, 3), (5, .aload_n 0, 1), (6, .iload_n 2, 1), (7, .invokevirtual 207, 3), (10, .isub, 1), (11, .istore_n 3, 1), (12, .iload_n 3, 1), (13, .ifCond .eq 13, 3), (16, .iload_n 3, 1), (17, .ifCond .le 7, 3), (20, .iconst 1, 1), (21, .goto 4, 3), (24, .iconst 0, 1), (25, .ireturn, 1), (26, .aload_n 0, 1), (27, .iload_n 1, 1), (28, .invokevirtual 152, 3), (31, .aload_n 0, 1), (32, .iload_n 2, 1), (33, .invokevirtual 152, 3), (36, .isub, 1), (37, .istore 4, 2), (39, .iload 4, 2), (41, .ifCond .eq 14, 3), (44, .iload 4, 2), (46, .ifCond .ge 7, 3), (49, .iconst 1, 1), (50, .goto 4, 3), (53, .iconst 0, 1), (54, .ireturn, 1), (55, .aload_n 0, 1), (56, .iload_n 1, 1), (57, .iload_n 2, 1), (58, .invokevirtual 210, 3), (61, .ireturn, 1)]
theorem ck_ri_ranksBefore : rk_chk prog_1_method_31_code kc_ri_ranksBefore = true := by decide +kernel
theorem ww_ri_ranksBefore : Cond.code yn_ri_ranksBefore prog_1_method_31_code 5 (some .boolean) ∈ lw_tbl ∧ Cond.initialized yn_ri_ranksBefore.cls ∈ lw_tbl ∧ Cond.instanceMethod yn_ri_ranksBefore ∈ lw_tbl ∧ Cond.selects "OrdinalRink" yn_ri_ranksBefore yn_ri_ranksBefore ∈ lw_tbl := ⟨List.mem_of_getElem? (i := 676) (by decide +kernel), List.mem_of_getElem? (i := 50) (by decide +kernel), List.mem_of_getElem? (i := 675) (by decide +kernel), List.mem_of_getElem? (i := 22) (by decide +kernel)⟩
def yn_ri_winsLastFree : MethodName := ⟨"OrdinalRink", "winsLastFree", "(II)Z"⟩
def kc_ri_winsLastFree : List (Nat × Jvm.ClassFile.Instr × Nat) := [(0, .iconst 2, 1), (1, .istore_n 3, 1), (2, .iload_n 3, 1), (3, .ifCond .lt 81, 3), (6, .aload_n 0, 1), (7, .getfield 11, 3), (10, .iload_n 3, 1), (11, .aaload, 1), (12, .astore 4, 2), (14, .aload 4, 2), (16, .getfield 142, 3), (19, .ifCond .eq 59, 3), (22, .aload 4, 2), (24, .getfield 57, 3), (27, .iconst 1, 1), (28, .if_icmp .ne 50, 3), (31, .aload 4, 2), (33, .getfield 111, 3), (36, .iload_n 1, 1), (37, .baload, 1), (38, .ifCond .eq 38, 3), (41, .aload 4, 2), (43, .getfield 111, 3), (46, .iload_n 2, 1), (47, .baload, 1), (48, .ifCond .eq 28, 3), (51, .aload 4, 2), (53, .getfield 124, 3), (56, .iconst 4, 1), (57, .aaload, 1), (58, .iload_n 1, 1), (59, .iaload, 1), (60, .aload 4, 2), (62, .getfield 124, 3), (65, .iconst 4, 1), (66, .aaload, 1), (67, .iload_n 2, 1), (68, .iaload, 1), (69, .if_icmp .ge 7, 3), (72, .iconst 1, 1), (73, .goto 4, 3), (76, .iconst 0, 1), (77, .ireturn, 1), (78, .iinc 3 (-1), 3), (81, .goto (-79), 3), (84, .iconst 0, 1), (85, .ireturn, 1)]
theorem ck_ri_winsLastFree : rk_chk prog_1_method_32_code kc_ri_winsLastFree = true := by decide +kernel
theorem ww_ri_winsLastFree : Cond.code yn_ri_winsLastFree prog_1_method_32_code 5 (some .boolean) ∈ lw_tbl ∧ Cond.initialized yn_ri_winsLastFree.cls ∈ lw_tbl ∧ Cond.instanceMethod yn_ri_winsLastFree ∈ lw_tbl ∧ Cond.selects "OrdinalRink" yn_ri_winsLastFree yn_ri_winsLastFree ∈ lw_tbl := ⟨List.mem_of_getElem? (i := 684) (by decide +kernel), List.mem_of_getElem? (i := 50) (by decide +kernel), List.mem_of_getElem? (i := 683) (by decide +kernel), List.mem_of_getElem? (i := 24) (by decide +kernel)⟩
def yn_ri_provesPlaceIn : MethodName := ⟨"OrdinalRink", "provesPlaceIn", "(LOrdinalRink$Segment;)Z"⟩
def kc_ri_provesPlaceIn : List (Nat × Jvm.ClassFile.Instr × Nat) := [(0, .aload_n 0, 1), (1, .getfield 28, 3), (4, .getfield 213, 3), (7, .iconst 0, 1), (8, .iaload, 1), (9, .istore_n 2, 1), (10, .iload_n 2, 1), (11, .aload_n 0, 1), (12, .getfield 155, 3), (15, .if_icmp .ge 11, 3), (18, .aload_n 1, 1), (19, .iload_n 2, 1), (20, .invokevirtual 120, 3), (23, .ifCond .ne 5, 3), (26, .iconst 0, 1), (27, .ireturn, 1), (28, .iconst 0, 1), (29, .istore_n 3, 1), (30, .iload_n 3, 1), (31, .iconst 5, 1), (32, .if_icmp .ge 33, 3), (35, .aload_n 0, 1), (36, .getfield 28, 3), (39, .getfield 213, 3), (42, .iconst 1, 1), (43, .iload_n 3, 1), (44, .iadd, 1), (45, .iaload, 1), (46, .aload_n 1, 1), (47, .getfield 124, 3), (50, .iload_n 3, 1), (51, .aaload, 1), (52, .iload_n 2, 1), (53, .iaload, 1), (54, .if_icmp .eq 5, 3), (57, .iconst 0, 1), (58, .ireturn, 1), (59, .iinc 3 1, 3), (62, .goto (-32), 3), (65, .iconst 1, 1), (66, .ireturn, 1)]
theorem ck_ri_provesPlaceIn : rk_chk prog_1_method_33_code kc_ri_provesPlaceIn = true := by decide +kernel
theorem ww_ri_provesPlaceIn : Cond.code yn_ri_provesPlaceIn prog_1_method_33_code 4 (some .boolean) ∈ lw_tbl ∧ Cond.initialized yn_ri_provesPlaceIn.cls ∈ lw_tbl ∧ Cond.instanceMethod yn_ri_provesPlaceIn ∈ lw_tbl ∧ Cond.selects "OrdinalRink" yn_ri_provesPlaceIn yn_ri_provesPlaceIn ∈ lw_tbl := ⟨List.mem_of_getElem? (i := 902) (by decide +kernel), List.mem_of_getElem? (i := 50) (by decide +kernel), List.mem_of_getElem? (i := 901) (by decide +kernel), List.mem_of_getElem? (i := 25) (by decide +kernel)⟩
theorem lk_mo_60 : Cond.methodLink "OrdinalRinkModel" 60 yn_mo_clear ∈ lw_tbl ∨ Cond.methodLinkNest "OrdinalRinkModel" 60 yn_mo_clear "OrdinalRink" ∈ lw_tbl := Or.inl (List.mem_of_getElem? (i := 909) (by decide +kernel))
theorem lk_mo_66 : Cond.methodLink "OrdinalRinkModel" 66 yn_mo_refused ∈ lw_tbl ∨ Cond.methodLinkNest "OrdinalRinkModel" 66 yn_mo_refused "OrdinalRink" ∈ lw_tbl := Or.inl (List.mem_of_getElem? (i := 979) (by decide +kernel))
theorem lk_mo_70 : Cond.methodLink "OrdinalRinkModel" 70 yn_mo_isSegment ∈ lw_tbl ∨ Cond.methodLinkNest "OrdinalRinkModel" 70 yn_mo_isSegment "OrdinalRink" ∈ lw_tbl := Or.inl (List.mem_of_getElem? (i := 987) (by decide +kernel))
theorem lk_mo_73 : Cond.methodLink "OrdinalRinkModel" 73 yn_mo_isJudge ∈ lw_tbl ∨ Cond.methodLinkNest "OrdinalRinkModel" 73 yn_mo_isJudge "OrdinalRink" ∈ lw_tbl := Or.inl (List.mem_of_getElem? (i := 994) (by decide +kernel))
theorem lk_mo_76 : Cond.methodLink "OrdinalRinkModel" 76 yn_mo_isSkater ∈ lw_tbl ∨ Cond.methodLinkNest "OrdinalRinkModel" 76 yn_mo_isSkater "OrdinalRink" ∈ lw_tbl := Or.inl (List.mem_of_getElem? (i := 998) (by decide +kernel))
theorem lk_mo_79 : Cond.methodLink "OrdinalRinkModel" 79 yn_mo_isNumber ∈ lw_tbl ∨ Cond.methodLinkNest "OrdinalRinkModel" 79 yn_mo_isNumber "OrdinalRink" ∈ lw_tbl := Or.inl (List.mem_of_getElem? (i := 1002) (by decide +kernel))
theorem lk_mo_82 : Cond.methodLink "OrdinalRinkModel" 82 yn_mo_put ∈ lw_tbl ∨ Cond.methodLinkNest "OrdinalRinkModel" 82 yn_mo_put "OrdinalRink" ∈ lw_tbl := Or.inl (List.mem_of_getElem? (i := 1005) (by decide +kernel))
theorem lk_mo_86 : Cond.methodLink "OrdinalRinkModel" 86 yn_mo_panel ∈ lw_tbl ∨ Cond.methodLinkNest "OrdinalRinkModel" 86 yn_mo_panel "OrdinalRink" ∈ lw_tbl := Or.inl (List.mem_of_getElem? (i := 1017) (by decide +kernel))
theorem lk_mo_90 : Cond.methodLink "OrdinalRinkModel" 90 yn_mo_lessened ∈ lw_tbl ∨ Cond.methodLinkNest "OrdinalRinkModel" 90 yn_mo_lessened "OrdinalRink" ∈ lw_tbl := Or.inl (List.mem_of_getElem? (i := 1041) (by decide +kernel))
theorem lk_mo_94 : Cond.methodLink "OrdinalRinkModel" 94 yn_mo_starts ∈ lw_tbl ∨ Cond.methodLinkNest "OrdinalRinkModel" 94 yn_mo_starts "OrdinalRink" ∈ lw_tbl := Or.inl (List.mem_of_getElem? (i := 1033) (by decide +kernel))
theorem lk_mo_98 : Cond.methodLink "OrdinalRinkModel" 98 yn_mo_isBetter ∈ lw_tbl ∨ Cond.methodLinkNest "OrdinalRinkModel" 98 yn_mo_isBetter "OrdinalRink" ∈ lw_tbl := Or.inl (List.mem_of_getElem? (i := 1037) (by decide +kernel))
theorem lk_mo_102 : Cond.methodLink "OrdinalRinkModel" 102 yn_mo_reckonJudge ∈ lw_tbl ∨ Cond.methodLinkNest "OrdinalRinkModel" 102 yn_mo_reckonJudge "OrdinalRink" ∈ lw_tbl := Or.inl (List.mem_of_getElem? (i := 1029) (by decide +kernel))
theorem lk_mo_105 : Cond.methodLink "OrdinalRinkModel" 105 yn_mo_reckonSkater ∈ lw_tbl ∨ Cond.methodLinkNest "OrdinalRinkModel" 105 yn_mo_reckonSkater "OrdinalRink" ∈ lw_tbl := Or.inl (List.mem_of_getElem? (i := 1053) (by decide +kernel))
theorem lk_mo_109 : Cond.methodLink "OrdinalRinkModel" 109 yn_mo_parts ∈ lw_tbl ∨ Cond.methodLinkNest "OrdinalRinkModel" 109 yn_mo_parts "OrdinalRink" ∈ lw_tbl := Or.inl (List.mem_of_getElem? (i := 1069) (by decide +kernel))
theorem lk_mo_112 : Cond.methodLink "OrdinalRinkModel" 112 yn_mo_isBefore ∈ lw_tbl ∨ Cond.methodLinkNest "OrdinalRinkModel" 112 yn_mo_isBefore "OrdinalRink" ∈ lw_tbl := Or.inl (List.mem_of_getElem? (i := 1065) (by decide +kernel))
theorem lk_mo_115 : Cond.methodLink "OrdinalRinkModel" 115 yn_mo_placeOf ∈ lw_tbl ∨ Cond.methodLinkNest "OrdinalRinkModel" 115 yn_mo_placeOf "OrdinalRink" ∈ lw_tbl := Or.inl (List.mem_of_getElem? (i := 1061) (by decide +kernel))
theorem lk_mo_118 : Cond.methodLink "OrdinalRinkModel" 118 yn_mo_reckon ∈ lw_tbl ∨ Cond.methodLinkNest "OrdinalRinkModel" 118 yn_mo_reckon "OrdinalRink" ∈ lw_tbl := Or.inl (List.mem_of_getElem? (i := 1049) (by decide +kernel))
theorem lk_mo_121 : Cond.methodLink "OrdinalRinkModel" 121 yn_mo_result ∈ lw_tbl ∨ Cond.methodLinkNest "OrdinalRinkModel" 121 yn_mo_result "OrdinalRink" ∈ lw_tbl := Or.inl (List.mem_of_getElem? (i := 1057) (by decide +kernel))
theorem lk_mo_125 : Cond.methodLink "OrdinalRinkModel" 125 yn_mo_leastSum ∈ lw_tbl ∨ Cond.methodLinkNest "OrdinalRinkModel" 125 yn_mo_leastSum "OrdinalRink" ∈ lw_tbl := Or.inl (List.mem_of_getElem? (i := 1081) (by decide +kernel))
theorem lk_mo_129 : Cond.methodLink "OrdinalRinkModel" 129 yn_mo_publishedPlace ∈ lw_tbl ∨ Cond.methodLinkNest "OrdinalRinkModel" 129 yn_mo_publishedPlace "OrdinalRink" ∈ lw_tbl := Or.inl (List.mem_of_getElem? (i := 1097) (by decide +kernel))
theorem lk_mo_132 : Cond.methodLink "OrdinalRinkModel" 132 yn_mo_totalOf ∈ lw_tbl ∨ Cond.methodLinkNest "OrdinalRinkModel" 132 yn_mo_totalOf "OrdinalRink" ∈ lw_tbl := Or.inl (List.mem_of_getElem? (i := 1093) (by decide +kernel))
theorem lk_mo_135 : Cond.methodLink "OrdinalRinkModel" 135 yn_mo_started ∈ lw_tbl ∨ Cond.methodLinkNest "OrdinalRinkModel" 135 yn_mo_started "OrdinalRink" ∈ lw_tbl := Or.inl (List.mem_of_getElem? (i := 1109) (by decide +kernel))
theorem lk_mo_138 : Cond.methodLink "OrdinalRinkModel" 138 yn_mo_ranksBefore ∈ lw_tbl ∨ Cond.methodLinkNest "OrdinalRinkModel" 138 yn_mo_ranksBefore "OrdinalRink" ∈ lw_tbl := Or.inl (List.mem_of_getElem? (i := 1105) (by decide +kernel))
theorem lk_mo_144 : Cond.methodLink "OrdinalRinkModel" 144 yn_mo_writeNumber ∈ lw_tbl ∨ Cond.methodLinkNest "OrdinalRinkModel" 144 yn_mo_writeNumber "OrdinalRink" ∈ lw_tbl := Or.inl (List.mem_of_getElem? (i := 1117) (by decide +kernel))
theorem lk_mo_151 : Cond.methodLink "OrdinalRinkModel" 151 yn_mo_read ∈ lw_tbl ∨ Cond.methodLinkNest "OrdinalRinkModel" 151 yn_mo_read "OrdinalRink" ∈ lw_tbl := Or.inl (List.mem_of_getElem? (i := 1129) (by decide +kernel))
theorem lk_se_56 : Cond.methodLink "OrdinalRink$Segment" 56 yn_se_hasMarkedStarters ∈ lw_tbl ∨ Cond.methodLinkNest "OrdinalRink$Segment" 56 yn_se_hasMarkedStarters "OrdinalRink" ∈ lw_tbl := Or.inl (List.mem_of_getElem? (i := 544) (by decide +kernel))
theorem lk_se_60 : Cond.methodLink "OrdinalRink$Segment" 60 yn_se_starterCount ∈ lw_tbl ∨ Cond.methodLinkNest "OrdinalRink$Segment" 60 yn_se_starterCount "OrdinalRink" ∈ lw_tbl := Or.inl (List.mem_of_getElem? (i := 577) (by decide +kernel))
theorem lk_se_64 : Cond.methodLink "OrdinalRink$Segment" 64 yn_se_fillOrdinals ∈ lw_tbl ∨ Cond.methodLinkNest "OrdinalRink$Segment" 64 yn_se_fillOrdinals "OrdinalRink" ∈ lw_tbl := Or.inl (List.mem_of_getElem? (i := 548) (by decide +kernel))
theorem lk_se_77 : Cond.methodLink "OrdinalRink$Segment" 77 yn_se_worth ∈ lw_tbl ∨ Cond.methodLinkNest "OrdinalRink$Segment" 77 yn_se_worth "OrdinalRink" ∈ lw_tbl := Or.inl (List.mem_of_getElem? (i := 552) (by decide +kernel))
theorem lk_se_81 : Cond.methodLink "OrdinalRink$Segment" 81 yn_se_settle ∈ lw_tbl ∨ Cond.methodLinkNest "OrdinalRink$Segment" 81 yn_se_settle "OrdinalRink" ∈ lw_tbl := Or.inl (List.mem_of_getElem? (i := 569) (by decide +kernel))
theorem lk_se_85 : Cond.methodLink "OrdinalRink$Segment" 85 yn_se_isComplete ∈ lw_tbl ∨ Cond.methodLinkNest "OrdinalRink$Segment" 85 yn_se_isComplete "OrdinalRink" ∈ lw_tbl := Or.inl (List.mem_of_getElem? (i := 573) (by decide +kernel))
theorem lk_se_88 : Cond.methodLink "OrdinalRink$Segment" 88 yn_se_panelSize ∈ lw_tbl ∨ Cond.methodLinkNest "OrdinalRink$Segment" 88 yn_se_panelSize "OrdinalRink" ∈ lw_tbl := Or.inl (List.mem_of_getElem? (i := 581) (by decide +kernel))
theorem lk_se_91 : Cond.methodLink "OrdinalRink$Segment" 91 yn_se_fillMajority ∈ lw_tbl ∨ Cond.methodLinkNest "OrdinalRink$Segment" 91 yn_se_fillMajority "OrdinalRink" ∈ lw_tbl := Or.inl (List.mem_of_getElem? (i := 582) (by decide +kernel))
theorem lk_se_95 : Cond.methodLink "OrdinalRink$Segment" 95 yn_se_fillPlace ∈ lw_tbl ∨ Cond.methodLinkNest "OrdinalRink$Segment" 95 yn_se_fillPlace "OrdinalRink" ∈ lw_tbl := Or.inl (List.mem_of_getElem? (i := 594) (by decide +kernel))
theorem lk_se_98 : Cond.methodLink "OrdinalRink$Segment" 98 yn_se_countUpTo ∈ lw_tbl ∨ Cond.methodLinkNest "OrdinalRink$Segment" 98 yn_se_countUpTo "OrdinalRink" ∈ lw_tbl := Or.inl (List.mem_of_getElem? (i := 586) (by decide +kernel))
theorem lk_se_101 : Cond.methodLink "OrdinalRink$Segment" 101 yn_se_sumUpTo ∈ lw_tbl ∨ Cond.methodLinkNest "OrdinalRink$Segment" 101 yn_se_sumUpTo "OrdinalRink" ∈ lw_tbl := Or.inl (List.mem_of_getElem? (i := 590) (by decide +kernel))
theorem lk_se_104 : Cond.methodLink "OrdinalRink$Segment" 104 yn_se_partingStep ∈ lw_tbl ∨ Cond.methodLinkNest "OrdinalRink$Segment" 104 yn_se_partingStep "OrdinalRink" ∈ lw_tbl := Or.inl (List.mem_of_getElem? (i := 598) (by decide +kernel))
theorem lk_se_107 : Cond.methodLink "OrdinalRink$Segment" 107 yn_se_isBeforeAt ∈ lw_tbl ∨ Cond.methodLinkNest "OrdinalRink$Segment" 107 yn_se_isBeforeAt "OrdinalRink" ∈ lw_tbl := Or.inl (List.mem_of_getElem? (i := 602) (by decide +kernel))
theorem lk_se_111 : Cond.methodLink "OrdinalRink$Segment" 111 yn_se_lastOfPanel ∈ lw_tbl ∨ Cond.methodLinkNest "OrdinalRink$Segment" 111 yn_se_lastOfPanel "OrdinalRink" ∈ lw_tbl := Or.inl (List.mem_of_getElem? (i := 626) (by decide +kernel))
theorem lk_se_114 : Cond.methodLink "OrdinalRink$Segment" 114 yn_se_reaches ∈ lw_tbl ∨ Cond.methodLinkNest "OrdinalRink$Segment" 114 yn_se_reaches "OrdinalRink" ∈ lw_tbl := Or.inl (List.mem_of_getElem? (i := 630) (by decide +kernel))
theorem lk_se_118 : Cond.methodLink "OrdinalRink$Segment" 118 yn_se_setMark ∈ lw_tbl ∨ Cond.methodLinkNest "OrdinalRink$Segment" 118 yn_se_setMark "OrdinalRink" ∈ lw_tbl := Or.inl (List.mem_of_getElem? (i := 639) (by decide +kernel))
theorem lk_se_122 : Cond.methodLink "OrdinalRink$Segment" 122 yn_se_bestFirst ∈ lw_tbl ∨ Cond.methodLinkNest "OrdinalRink$Segment" 122 yn_se_bestFirst "OrdinalRink" ∈ lw_tbl := Or.inl (List.mem_of_getElem? (i := 634) (by decide +kernel))
theorem lk_pr_25 : Cond.methodLink "OrdinalRink$ProofReader" 25 yn_pr_canGrow ∈ lw_tbl ∨ Cond.methodLinkNest "OrdinalRink$ProofReader" 25 yn_pr_canGrow "OrdinalRink" ∈ lw_tbl := Or.inl (List.mem_of_getElem? (i := 896) (by decide +kernel))
theorem lk_ri_33 : Cond.methodLink "OrdinalRink" 33 yn_ri_openEvent ∈ lw_tbl ∨ Cond.methodLinkNest "OrdinalRink" 33 yn_ri_openEvent "OrdinalRink" ∈ lw_tbl := Or.inl (List.mem_of_getElem? (i := 181) (by decide +kernel))
theorem lk_ri_46 : Cond.methodLink "OrdinalRink" 46 yn_ri_requireSegment ∈ lw_tbl ∨ Cond.methodLinkNest "OrdinalRink" 46 yn_ri_requireSegment "OrdinalRink" ∈ lw_tbl := Or.inl (List.mem_of_getElem? (i := 424) (by decide +kernel))
theorem lk_ri_54 : Cond.methodLink "OrdinalRink" 54 yn_ri_requireOpen ∈ lw_tbl ∨ Cond.methodLinkNest "OrdinalRink" 54 yn_ri_requireOpen "OrdinalRink" ∈ lw_tbl := Or.inl (List.mem_of_getElem? (i := 446) (by decide +kernel))
theorem lk_ri_64 : Cond.methodLink "OrdinalRink" 64 yn_ri_requireJudge ∈ lw_tbl ∨ Cond.methodLinkNest "OrdinalRink" 64 yn_ri_requireJudge "OrdinalRink" ∈ lw_tbl := Or.inl (List.mem_of_getElem? (i := 473) (by decide +kernel))
theorem lk_ri_67 : Cond.methodLink "OrdinalRink" 67 yn_ri_requireSkater ∈ lw_tbl ∨ Cond.methodLinkNest "OrdinalRink" 67 yn_ri_requireSkater "OrdinalRink" ∈ lw_tbl := Or.inl (List.mem_of_getElem? (i := 478) (by decide +kernel))
theorem lk_ri_70 : Cond.methodLink "OrdinalRink" 70 yn_ri_requireNumber ∈ lw_tbl ∨ Cond.methodLinkNest "OrdinalRink" 70 yn_ri_requireNumber "OrdinalRink" ∈ lw_tbl := Or.inl (List.mem_of_getElem? (i := 483) (by decide +kernel))
theorem lk_ri_73 : Cond.methodLink "OrdinalRink" 73 yn_se_setMark ∈ lw_tbl ∨ Cond.methodLinkNest "OrdinalRink" 73 yn_se_setMark "OrdinalRink" ∈ lw_tbl := Or.inl (List.mem_of_getElem? (i := 488) (by decide +kernel))
theorem lk_ri_82 : Cond.methodLink "OrdinalRink" 82 yn_se_replaceDeduction ∈ lw_tbl ∨ Cond.methodLinkNest "OrdinalRink" 82 yn_se_replaceDeduction "OrdinalRink" ∈ lw_tbl := Or.inl (List.mem_of_getElem? (i := 500) (by decide +kernel))
theorem lk_ri_90 : Cond.methodLink "OrdinalRink" 90 yn_se_panelSize ∈ lw_tbl ∨ Cond.methodLinkNest "OrdinalRink" 90 yn_se_panelSize "OrdinalRink" ∈ lw_tbl := Or.inl (List.mem_of_getElem? (i := 511) (by decide +kernel))
theorem lk_ri_101 : Cond.methodLink "OrdinalRink" 101 yn_ri_changesPublishedStarters ∈ lw_tbl ∨ Cond.methodLinkNest "OrdinalRink" 101 yn_ri_changesPublishedStarters "OrdinalRink" ∈ lw_tbl := Or.inl (List.mem_of_getElem? (i := 524) (by decide +kernel))
theorem lk_ri_107 : Cond.methodLink "OrdinalRink" 107 yn_ri_firstSegmentWithout ∈ lw_tbl ∨ Cond.methodLinkNest "OrdinalRink" 107 yn_ri_firstSegmentWithout "OrdinalRink" ∈ lw_tbl := Or.inl (List.mem_of_getElem? (i := 529) (by decide +kernel))
theorem lk_ri_114 : Cond.methodLink "OrdinalRink" 114 yn_se_ordinalBy ∈ lw_tbl ∨ Cond.methodLinkNest "OrdinalRink" 114 yn_se_ordinalBy "OrdinalRink" ∈ lw_tbl := Or.inl (List.mem_of_getElem? (i := 540) (by decide +kernel))
theorem lk_ri_120 : Cond.methodLink "OrdinalRink" 120 yn_se_settlesFor ∈ lw_tbl ∨ Cond.methodLinkNest "OrdinalRink" 120 yn_se_settlesFor "OrdinalRink" ∈ lw_tbl := Or.inl (List.mem_of_getElem? (i := 565) (by decide +kernel))
theorem lk_ri_128 : Cond.methodLink "OrdinalRink" 128 yn_se_partingStep ∈ lw_tbl ∨ Cond.methodLinkNest "OrdinalRink" 128 yn_se_partingStep "OrdinalRink" ∈ lw_tbl := Or.inl (List.mem_of_getElem? (i := 613) (by decide +kernel))
theorem lk_ri_133 : Cond.methodLink "OrdinalRink" 133 yn_se_leastSum ∈ lw_tbl ∨ Cond.methodLinkNest "OrdinalRink" 133 yn_se_leastSum "OrdinalRink" ∈ lw_tbl := Or.inl (List.mem_of_getElem? (i := 622) (by decide +kernel))
theorem lk_ri_136 : Cond.methodLink "OrdinalRink" 136 yn_se_isComplete ∈ lw_tbl ∨ Cond.methodLinkNest "OrdinalRink" 136 yn_se_isComplete "OrdinalRink" ∈ lw_tbl := Or.inl (List.mem_of_getElem? (i := 647) (by decide +kernel))
theorem lk_ri_146 : Cond.methodLink "OrdinalRink" 146 yn_se_starterCount ∈ lw_tbl ∨ Cond.methodLinkNest "OrdinalRink" 146 yn_se_starterCount "OrdinalRink" ∈ lw_tbl := Or.inl (List.mem_of_getElem? (i := 649) (by decide +kernel))
theorem lk_ri_149 : Cond.methodLink "OrdinalRink" 149 yn_ri_settlePublished ∈ lw_tbl ∨ Cond.methodLinkNest "OrdinalRink" 149 yn_ri_settlePublished "OrdinalRink" ∈ lw_tbl := Or.inl (List.mem_of_getElem? (i := 657) (by decide +kernel))
theorem lk_ri_152 : Cond.methodLink "OrdinalRink" 152 yn_ri_settledTotal ∈ lw_tbl ∨ Cond.methodLinkNest "OrdinalRink" 152 yn_ri_settledTotal "OrdinalRink" ∈ lw_tbl := Or.inl (List.mem_of_getElem? (i := 662) (by decide +kernel))
theorem lk_ri_158 : Cond.methodLink "OrdinalRink" 158 yn_ri_ranksBefore ∈ lw_tbl ∨ Cond.methodLinkNest "OrdinalRink" 158 yn_ri_ranksBefore "OrdinalRink" ∈ lw_tbl := Or.inl (List.mem_of_getElem? (i := 673) (by decide +kernel))
theorem lk_ri_176 : Cond.methodLink "OrdinalRink" 176 yn_pr_firstFault ∈ lw_tbl ∨ Cond.methodLinkNest "OrdinalRink" 176 yn_pr_firstFault "OrdinalRink" ∈ lw_tbl := Or.inl (List.mem_of_getElem? (i := 890) (by decide +kernel))
theorem lk_ri_180 : Cond.methodLink "OrdinalRink" 180 yn_ri_provesPlaceIn ∈ lw_tbl ∨ Cond.methodLinkNest "OrdinalRink" 180 yn_ri_provesPlaceIn "OrdinalRink" ∈ lw_tbl := Or.inl (List.mem_of_getElem? (i := 899) (by decide +kernel))
theorem lk_ri_191 : Cond.methodLink "OrdinalRink" 191 yn_se_reopen ∈ lw_tbl ∨ Cond.methodLinkNest "OrdinalRink" 191 yn_se_reopen "OrdinalRink" ∈ lw_tbl := Or.inl (List.mem_of_getElem? (i := 185) (by decide +kernel))
theorem lk_ri_204 : Cond.methodLink "OrdinalRink" 204 yn_se_settle ∈ lw_tbl ∨ Cond.methodLinkNest "OrdinalRink" 204 yn_se_settle "OrdinalRink" ∈ lw_tbl := Or.inl (List.mem_of_getElem? (i := 661) (by decide +kernel))
theorem lk_ri_207 : Cond.methodLink "OrdinalRink" 207 yn_ri_publishedStarts ∈ lw_tbl ∨ Cond.methodLinkNest "OrdinalRink" 207 yn_ri_publishedStarts "OrdinalRink" ∈ lw_tbl := Or.inl (List.mem_of_getElem? (i := 677) (by decide +kernel))
theorem lk_ri_210 : Cond.methodLink "OrdinalRink" 210 yn_ri_winsLastFree ∈ lw_tbl ∨ Cond.methodLinkNest "OrdinalRink" 210 yn_ri_winsLastFree "OrdinalRink" ∈ lw_tbl := Or.inl (List.mem_of_getElem? (i := 681) (by decide +kernel))
end
section
/-! Where the class throws -/
theorem tk_ri_event_11 {d : Nat} (l : Launch) (hl : l.stackTraces = false) : rk_TK l "OrdinalRink" d prog_1_method_2_code 11 1 := rk_throw (idx := 37) (is := 39) (ic := 41) (text := "no event has so many skaters") hl (by decide +kernel) (by decide +kernel) (by decide +kernel) (by decide +kernel) (by decide +kernel) (List.mem_of_getElem? (i := 345) (by decide +kernel)) (List.mem_of_getElem? (i := 346) (by decide +kernel)) (List.mem_of_getElem? (i := 62) (by decide +kernel)) (List.mem_of_getElem? (i := 388) (by decide +kernel)) (by decide +kernel) rk_thw_1
theorem tk_ri_event_32 {d : Nat} (l : Launch) (hl : l.stackTraces = false) : rk_TK l "OrdinalRink" d prog_1_method_2_code 32 1 := rk_throw (idx := 37) (is := 44) (ic := 41) (text := "no event has so many judges") hl (by decide +kernel) (by decide +kernel) (by decide +kernel) (by decide +kernel) (by decide +kernel) (List.mem_of_getElem? (i := 345) (by decide +kernel)) (List.mem_of_getElem? (i := 346) (by decide +kernel)) (List.mem_of_getElem? (i := 62) (by decide +kernel)) (List.mem_of_getElem? (i := 414) (by decide +kernel)) (by decide +kernel) rk_thw_1
theorem tk_ri_segment_14 {d : Nat} (l : Launch) (hl : l.stackTraces = false) : rk_TK l "OrdinalRink" d prog_1_method_3_code 14 1 := rk_throw (idx := 37) (is := 50) (ic := 41) (text := "a segment is SHORT or FREE") hl (by decide +kernel) (by decide +kernel) (by decide +kernel) (by decide +kernel) (by decide +kernel) (List.mem_of_getElem? (i := 345) (by decide +kernel)) (List.mem_of_getElem? (i := 346) (by decide +kernel)) (List.mem_of_getElem? (i := 62) (by decide +kernel)) (List.mem_of_getElem? (i := 444) (by decide +kernel)) (by decide +kernel) rk_thw_1
theorem tk_ri_segment_35 {d : Nat} (l : Launch) (hl : l.stackTraces = false) : rk_TK l "OrdinalRink" d prog_1_method_3_code 35 1 := rk_throw (idx := 37) (is := 52) (ic := 41) (text := "a factor is 1 to 20") hl (by decide +kernel) (by decide +kernel) (by decide +kernel) (by decide +kernel) (by decide +kernel) (List.mem_of_getElem? (i := 345) (by decide +kernel)) (List.mem_of_getElem? (i := 346) (by decide +kernel)) (List.mem_of_getElem? (i := 62) (by decide +kernel)) (List.mem_of_getElem? (i := 445) (by decide +kernel)) (by decide +kernel) rk_thw_1
theorem tk_ri_deduct_19 {d : Nat} (l : Launch) (hl : l.stackTraces = false) : rk_TK l "OrdinalRink" d prog_1_method_5_code 19 0 := rk_throw (idx := 77) (is := 79) (ic := 81) (text := "a mark has numbers 0 and 1") hl (by decide +kernel) (by decide +kernel) (by decide +kernel) (by decide +kernel) (by decide +kernel) (List.mem_of_getElem? (i := 428) (by decide +kernel)) (List.mem_of_getElem? (i := 429) (by decide +kernel)) (List.mem_of_getElem? (i := 63) (by decide +kernel)) (List.mem_of_getElem? (i := 499) (by decide +kernel)) (by decide +kernel) rk_thw_0
theorem tk_ri_strike_46 {d : Nat} (l : Launch) (hl : l.stackTraces = false) : rk_TK l "OrdinalRink" d prog_1_method_6_code 46 2 := rk_throw (idx := 94) (is := 96) (ic := 98) (text := "a panel has three judges at least") hl (by decide +kernel) (by decide +kernel) (by decide +kernel) (by decide +kernel) (by decide +kernel) (List.mem_of_getElem? (i := 450) (by decide +kernel)) (List.mem_of_getElem? (i := 451) (by decide +kernel)) (List.mem_of_getElem? (i := 64) (by decide +kernel)) (List.mem_of_getElem? (i := 515) (by decide +kernel)) (by decide +kernel) rk_thw_2
theorem tk_ri_withdraw_14 {d : Nat} (l : Launch) (hl : l.stackTraces = false) : rk_TK l "OrdinalRink" d prog_1_method_7_code 14 1 := rk_throw (idx := 37) (is := 99) (ic := 41) (text := "a skater withdraws from 0 to 3 on") hl (by decide +kernel) (by decide +kernel) (by decide +kernel) (by decide +kernel) (by decide +kernel) (List.mem_of_getElem? (i := 345) (by decide +kernel)) (List.mem_of_getElem? (i := 346) (by decide +kernel)) (List.mem_of_getElem? (i := 62) (by decide +kernel)) (List.mem_of_getElem? (i := 523) (by decide +kernel)) (by decide +kernel) rk_thw_1
theorem tk_ri_withdraw_33 {d : Nat} (l : Launch) (hl : l.stackTraces = false) : rk_TK l "OrdinalRink" d prog_1_method_7_code 33 2 := rk_throw (idx := 94) (is := 105) (ic := 98) (text := "a published segment keeps its starters") hl (by decide +kernel) (by decide +kernel) (by decide +kernel) (by decide +kernel) (by decide +kernel) (List.mem_of_getElem? (i := 450) (by decide +kernel)) (List.mem_of_getElem? (i := 451) (by decide +kernel)) (List.mem_of_getElem? (i := 64) (by decide +kernel)) (List.mem_of_getElem? (i := 528) (by decide +kernel)) (by decide +kernel) rk_thw_2
theorem tk_ri_placing_19 {d : Nat} (l : Launch) (hl : l.stackTraces = false) : rk_TK l "OrdinalRink" d prog_1_method_9_code 19 0 := rk_throw (idx := 77) (is := 118) (ic := 81) (text := "figures are 0 to 4") hl (by decide +kernel) (by decide +kernel) (by decide +kernel) (by decide +kernel) (by decide +kernel) (List.mem_of_getElem? (i := 428) (by decide +kernel)) (List.mem_of_getElem? (i := 429) (by decide +kernel)) (List.mem_of_getElem? (i := 63) (by decide +kernel)) (List.mem_of_getElem? (i := 564) (by decide +kernel)) (by decide +kernel) rk_thw_0
theorem tk_ri_needed_21 {d : Nat} (l : Launch) (hl : l.stackTraces = false) : rk_TK l "OrdinalRink" d prog_1_method_11_code 21 1 := rk_throw (idx := 37) (is := 131) (ic := 41) (text := "places are 1 to 10") hl (by decide +kernel) (by decide +kernel) (by decide +kernel) (by decide +kernel) (by decide +kernel) (List.mem_of_getElem? (i := 345) (by decide +kernel)) (List.mem_of_getElem? (i := 346) (by decide +kernel)) (List.mem_of_getElem? (i := 62) (by decide +kernel)) (List.mem_of_getElem? (i := 621) (by decide +kernel)) (by decide +kernel) rk_thw_1
theorem tk_ri_publish_24 {d : Nat} (l : Launch) (hl : l.stackTraces = false) : rk_TK l "OrdinalRink" d prog_1_method_12_code 24 2 := rk_throw (idx := 94) (is := 140) (ic := 98) (text := "the segment is not complete") hl (by decide +kernel) (by decide +kernel) (by decide +kernel) (by decide +kernel) (by decide +kernel) (List.mem_of_getElem? (i := 450) (by decide +kernel)) (List.mem_of_getElem? (i := 451) (by decide +kernel)) (List.mem_of_getElem? (i := 64) (by decide +kernel)) (List.mem_of_getElem? (i := 648) (by decide +kernel)) (by decide +kernel) rk_thw_2
theorem tk_ri_proof_25 {d : Nat} (l : Launch) (hl : l.stackTraces = false) : rk_TK l "OrdinalRink" d prog_1_method_15_code 25 2 := rk_throw (idx := 94) (is := 161) (ic := 98) (text := "the skater has no place in the segment") hl (by decide +kernel) (by decide +kernel) (by decide +kernel) (by decide +kernel) (by decide +kernel) (List.mem_of_getElem? (i := 450) (by decide +kernel)) (List.mem_of_getElem? (i := 451) (by decide +kernel)) (List.mem_of_getElem? (i := 64) (by decide +kernel)) (List.mem_of_getElem? (i := 692) (by decide +kernel)) (by decide +kernel) rk_thw_2
theorem tk_ri_requireSegment_9 {d : Nat} (l : Launch) (hl : l.stackTraces = false) : rk_TK l "OrdinalRink" d prog_1_method_21_code 9 0 := rk_throw (idx := 77) (is := 194) (ic := 81) (text := "there is no such segment") hl (by decide +kernel) (by decide +kernel) (by decide +kernel) (by decide +kernel) (by decide +kernel) (List.mem_of_getElem? (i := 428) (by decide +kernel)) (List.mem_of_getElem? (i := 429) (by decide +kernel)) (List.mem_of_getElem? (i := 63) (by decide +kernel)) (List.mem_of_getElem? (i := 437) (by decide +kernel)) (by decide +kernel) rk_thw_0
theorem tk_ri_requireJudge_12 {d : Nat} (l : Launch) (hl : l.stackTraces = false) : rk_TK l "OrdinalRink" d prog_1_method_22_code 12 0 := rk_throw (idx := 77) (is := 196) (ic := 81) (text := "there is no such judge") hl (by decide +kernel) (by decide +kernel) (by decide +kernel) (by decide +kernel) (by decide +kernel) (List.mem_of_getElem? (i := 428) (by decide +kernel)) (List.mem_of_getElem? (i := 429) (by decide +kernel)) (List.mem_of_getElem? (i := 63) (by decide +kernel)) (List.mem_of_getElem? (i := 477) (by decide +kernel)) (by decide +kernel) rk_thw_0
theorem tk_ri_requireSkater_12 {d : Nat} (l : Launch) (hl : l.stackTraces = false) : rk_TK l "OrdinalRink" d prog_1_method_23_code 12 0 := rk_throw (idx := 77) (is := 198) (ic := 81) (text := "there is no such skater") hl (by decide +kernel) (by decide +kernel) (by decide +kernel) (by decide +kernel) (by decide +kernel) (List.mem_of_getElem? (i := 428) (by decide +kernel)) (List.mem_of_getElem? (i := 429) (by decide +kernel)) (List.mem_of_getElem? (i := 63) (by decide +kernel)) (List.mem_of_getElem? (i := 482) (by decide +kernel)) (by decide +kernel) rk_thw_0
theorem tk_ri_requireNumber_10 {d : Nat} (l : Launch) (hl : l.stackTraces = false) : rk_TK l "OrdinalRink" d prog_1_method_24_code 10 1 := rk_throw (idx := 37) (is := 200) (ic := 41) (text := "numbers are 0 to 60") hl (by decide +kernel) (by decide +kernel) (by decide +kernel) (by decide +kernel) (by decide +kernel) (List.mem_of_getElem? (i := 345) (by decide +kernel)) (List.mem_of_getElem? (i := 346) (by decide +kernel)) (List.mem_of_getElem? (i := 62) (by decide +kernel)) (List.mem_of_getElem? (i := 487) (by decide +kernel)) (by decide +kernel) rk_thw_1
theorem tk_ri_requireOpen_12 {d : Nat} (l : Launch) (hl : l.stackTraces = false) : rk_TK l "OrdinalRink" d prog_1_method_25_code 12 2 := rk_throw (idx := 94) (is := 202) (ic := 98) (text := "the segment is published") hl (by decide +kernel) (by decide +kernel) (by decide +kernel) (by decide +kernel) (by decide +kernel) (List.mem_of_getElem? (i := 450) (by decide +kernel)) (List.mem_of_getElem? (i := 451) (by decide +kernel)) (List.mem_of_getElem? (i := 64) (by decide +kernel)) (List.mem_of_getElem? (i := 459) (by decide +kernel)) (by decide +kernel) rk_thw_2
end
section
/-! Names, code and links of the JDK's members that the class calls, by program (wip/whole/gen116.py) -/
def ft_jd : List (Nat × Nat × Nat × Int) := []
def yn_jd_max : MethodName := ⟨"java/lang/Math", "max", "(II)I"⟩
def kc_jd_max : List (Nat × Jvm.ClassFile.Instr × Nat) := [(0, .iload_n 0, 1), (1, .iload_n 1, 1), (2, .if_icmp .lt 7, 3), (5, .iload_n 0, 1), (6, .goto 4, 3), (9, .iload_n 1, 1), (10, .ireturn, 1)]
theorem ck_jd_max : rk_chk prog_14_method_65_code kc_jd_max = true := by decide +kernel
theorem ftc_jd_max : rk_ftc "java/lang/Math" ft_jd = true := rfl
theorem ww_jd_max : Cond.code yn_jd_max prog_14_method_65_code 2 (some .int) ∈ lw_tbl ∧ Cond.initialized yn_jd_max.cls ∈ lw_tbl ∧ Cond.static yn_jd_max ∈ lw_tbl := ⟨List.mem_of_getElem? (i := 242) (by decide +kernel), List.mem_of_getElem? (i := 65) (by decide +kernel), List.mem_of_getElem? (i := 241) (by decide +kernel)⟩
def yn_jd_min : MethodName := ⟨"java/lang/Math", "min", "(II)I"⟩
def kc_jd_min : List (Nat × Jvm.ClassFile.Instr × Nat) := [(0, .iload_n 0, 1), (1, .iload_n 1, 1), (2, .if_icmp .gt 7, 3), (5, .iload_n 0, 1), (6, .goto 4, 3), (9, .iload_n 1, 1), (10, .ireturn, 1)]
theorem ck_jd_min : rk_chk prog_14_method_69_code kc_jd_min = true := by decide +kernel
theorem ftc_jd_min : rk_ftc "java/lang/Math" ft_jd = true := rfl
theorem ww_jd_min : Cond.code yn_jd_min prog_14_method_69_code 2 (some .int) ∈ lw_tbl ∧ Cond.initialized yn_jd_min.cls ∈ lw_tbl ∧ Cond.static yn_jd_min ∈ lw_tbl := ⟨List.mem_of_getElem? (i := 260) (by decide +kernel), List.mem_of_getElem? (i := 65) (by decide +kernel), List.mem_of_getElem? (i := 259) (by decide +kernel)⟩
def yn_jd_fill : MethodName := ⟨"java/util/Arrays", "fill", "([II)V"⟩
def kc_jd_fill : List (Nat × Jvm.ClassFile.Instr × Nat) := [(0, .iconst 0, 1), (1, .istore_n 2, 1), (2, .aload_n 0, 1), (3, .arraylength, 1), (4, .istore_n 3, 1), (5, .iload_n 2, 1), (6, .iload_n 3, 1), (7, .if_icmp .ge 13, 3), (10, .aload_n 0, 1), (11, .iload_n 2, 1), (12, .iload_n 1, 1), (13, .iastore, 1), (14, .iinc 2 1, 3), (17, .goto (-12), 3), (20, .return_, 1)]
theorem ck_jd_fill : rk_chk prog_23_method_103_code kc_jd_fill = true := by decide +kernel
theorem ftc_jd_fill : rk_ftc "java/util/Arrays" ft_jd = true := rfl
theorem ww_jd_fill : Cond.code yn_jd_fill prog_23_method_103_code 4 none ∈ lw_tbl ∧ Cond.initialized yn_jd_fill.cls ∈ lw_tbl ∧ Cond.static yn_jd_fill ∈ lw_tbl := ⟨List.mem_of_getElem? (i := 191) (by decide +kernel), List.mem_of_getElem? (i := 57) (by decide +kernel), List.mem_of_getElem? (i := 190) (by decide +kernel)⟩
theorem lk_se_50 : Cond.methodLink "OrdinalRink$Segment" 50 yn_jd_fill ∈ lw_tbl ∨ Cond.methodLinkNest "OrdinalRink$Segment" 50 yn_jd_fill "OrdinalRink" ∈ lw_tbl := Or.inl (List.mem_of_getElem? (i := 189) (by decide +kernel))
theorem lk_se_68 : Cond.methodLink "OrdinalRink$Segment" 68 yn_jd_max ∈ lw_tbl ∨ Cond.methodLinkNest "OrdinalRink$Segment" 68 yn_jd_max "OrdinalRink" ∈ lw_tbl := Or.inl (List.mem_of_getElem? (i := 556) (by decide +kernel))
theorem lk_se_125 : Cond.methodLink "OrdinalRink$Segment" 125 yn_jd_min ∈ lw_tbl ∨ Cond.methodLinkNest "OrdinalRink$Segment" 125 yn_jd_min "OrdinalRink" ∈ lw_tbl := Or.inl (List.mem_of_getElem? (i := 638) (by decide +kernel))
end
section
/-! The same for members of classes that have native rows beside -/
section RKYF
variable {l : Launch} {cl : List vw_C} {y : MethodName} {cc : ByteArray} {nL d : Nat} {ret : Option FieldType} {C : rk_C} {pre : List rk_V → rk_M → Prop} {post : List rk_V → rk_M → rk_Z → rk_M → Prop}
theorem rk_Sp_ofF (hy : plainFor y = true) (hnl : ∀ as M, pre as M → as.length ≤ nL ∧ ∀ (E : rk_E), ∀ a ∈ as, (rk_vl E a).category = 1)
    (hcx : ∀ p e s m args below meth c s₁ (E : rk_E), BodyLoose p l y (headSpec [.code y cc nL ret] (rk_rm d C.most)) cc nL ret e s m args below meth c s₁ → c.maxLocals = nL → rk_TB s → rk_O E → rk_T E cl s → rk_NN E s → ∀ as M, pre as M → rk_Cx p l e (rk_rm d C.most) s m args below meth c cc E cl C nL (post as M))
    (body : ∀ (L : Nat) (as : List rk_V) (M : rk_M) (G : rk_G), pre as M → (∀ t o r j, rk_rg (M t o r j)) → rk_Go C L nL G (post as M) → G M 0 (as ++ List.replicate (nL - as.length) rk_u) [] 0) : rk_Sp l cl y (.code y cc nL ret) d pre post C.most := by
  intro E as M hpre
  obtain ⟨hlen, hcat⟩ := hnl as M hpre
  refine MetFree.of_bodySF (code := cc) (maxLocals := nL) (ret := ret) hy ?_ ?_
  · intro args s m h hn
    obtain ⟨meth, c, h1, h2, h3, h4, h5, h6, -, -⟩ := Cond.code_spec hn (atoms_spec (ws := [.code y cc nL ret]) h _ List.mem_cons_self)
    exact ⟨meth, c, h1, h2, h3, h4, h5, h6⟩
  · intro p e s m args below meth c s₁ B hml hP _
    obtain ⟨rfl, hok, hTB, hO, hT, hH, hn⟩ := hP
    have hh0 : s₁.heap = s.heap := by rw [B.state]; rfl
    obtain ⟨ls, he, hL⟩ := rk_entry (nL := nL) m hok (hcat E) hlen
    have hC := hcx p e s m _ below meth c s₁ E B hml hTB hO hT hn as M hpre
    have hA := body E.L as M (rk_A p l e (rk_rm d C.most) s m ((as.map (rk_vl E)).toArray) below meth c (rk_QQ below ((as.map (rk_vl E)).toArray) s E cl (post as M) C.most) E cl) hpre hH.1
      (fun f M pc al st κ hal h => rk_run B.exec B.bytes hTB hO hT hn B.notSynchronized hC (fun _ _ _ _ _ _ h => h) f M pc al st κ hal h)
    have hW := hA s.heap [] ls hH va_S.rf hL (fun v hv => by cases hv)
    obtain ⟨t, a1, o, b1, b2, b3, b4, b5⟩ := hW s₁ hh0 (Stand.of_body B)
    exact ⟨t, o, by rw [he]; exact a1, b1, b2, b3, b4, b5⟩
end RKYF
theorem rk_mkF {l : Launch} {y : MethodName} {cc : ByteArray} {nL d : Nat} {ret : Option FieldType} {kc : List (Nat × Jvm.ClassFile.Instr × Nat)} {ft : List (Nat × Nat × Nat × Int)} {ca : List (Nat × rk_F)} {th : List (Nat × Nat)} {stops : List Nat} {rt most : Nat} {pre : List rk_V → rk_M → Prop} {post : List rk_V → rk_M → rk_Z → rk_M → Prop}
    (hck : rk_chk cc kc = true) (hft : rk_ftc y.cls ft = true) (hca : ∀ q ∈ ca, rk_CK l y.cls d q.1 q.2) (hth : ∀ q ∈ th, rk_TK l y.cls d cc q.1 q.2) (hrt : rk_rtk rt ret) (hy : plainFor y = true) (hnl : ∀ as M, pre as M → as.length ≤ nL ∧ ∀ (E : rk_E), ∀ a ∈ as, (rk_vl E a).category = 1)
    (body : ∀ (L : Nat) (as : List rk_V) (M : rk_M) (G : rk_G), pre as M → (∀ t o r j, rk_rg (M t o r j)) → rk_Go (rk_ctx kc ft ca th stops rt most) L nL G (post as M) → G M 0 (as ++ List.replicate (nL - as.length) rk_u) [] 0) : rk_Sp l rk_cs y (.code y cc nL ret) d pre post most := by
  refine rk_Sp_ofF (C := rk_ctx kc ft ca th stops rt most) hy hnl (fun p e s m args below meth c s₁ E B hml hTB hO hT hn as M hpre => ?_) body
  have hown : s.vm.findClass y.cls = some m.cls := findClass_of_methodNamed B.named
  have hcodeV := atoms_spec (ws := [.code y cc nL ret]) B.pre _ List.mem_cons_self
  have hnoh : ∀ pc : Nat, ∀ z ∈ c.exceptionTable.toList, covers z pc = false := fun pc => covers_of_empty (B.noHandlers hcodeV) pc
  refine ⟨rk_chk_ok hck, rk_FL_of hft hTB hown, fun idx ci k z q f fs on rn t _ hq hk hf h1 _ => rk_fin hq hk hf h1, fun pc key i F hF hi hii M al as rest κ hal has hrl hp hκ kk => ?_, fun pc x hx' M al κ hal hκ hp => ?_, fun pc x => ⟨fun _ _ => hnoh pc, fun h hh => by cases hh⟩, ?_⟩
  · exact rk_CK.run (hca _ (rk_lk_in hF)) B.exec B.bytes hTB hO hT hn hown hml (rk_chk_ok hck pc i 3 hi).1 hii M al as rest κ hal has hrl hp hκ kk
  · exact hth _ (rk_lk_in hx') p e s m args below meth c E nL most _ B.exec B.bytes hTB hO hT hn hown hml B.notSynchronized (hnoh _) (hnoh _) B.admits M al κ hal hκ hp
  · rw [B.returns]; exact hrt
end
section
/-! Tools for contracts -/
def rk_ai (as : List rk_V) (k : Nat) : Int := match as[k]? with
  | some (.inl x) => x
  | _ => 0
def rk_ao (as : List rk_V) : Int := match (as[0]? : Option rk_V) with
  | some (.inr (.inl h)) => h.2.1
  | _ => 0
def rk_nl (v : rk_V) : Bool := match v with
  | .inr (.inr (.inl _)) => false
  | _ => true
theorem rk_nlok {as : List rk_V} (h : as.all rk_nl = true) (E : rk_E) : ∀ a ∈ as, (rk_vl E a).category = 1 := by
  intro a ha
  have h1 := List.all_eq_true.mp h a ha
  match a, h1 with
  | .inl x, _ => rfl
  | .inr (.inl x), _ => rfl
  | .inr (.inr (.inl x)), h1 => cases h1
  | .inr (.inr (.inr x)), _ => rfl
/-- a sum over 0 .. n - 1 -/
def rk_sm (f : Int → Int) : Nat → Int
  | 0 => 0
  | n + 1 => rk_sm f n + f n
theorem rk_loop {P : Nat → Prop} (N : Nat) (h : ∀ i, i ≤ N → (i < N → P (i + 1)) → P i) : ∀ i, i ≤ N → P i := by
  intro i hi
  induction hd : N - i generalizing i with
  | zero => exact h i hi (fun q => by omega)
  | succ d ih => exact h i hi (fun q => ih (i + 1) q (by omega))
theorem rk_gto {G : rk_G} {M M' : rk_M} {pc : Nat} {al al' st st' : List rk_V} {κ : Nat} (h : G M' pc al' st' κ) (h1 : M = M') (h2 : al = al') (h3 : st = st') : G M pc al st κ := by subst h1; subst h2; subst h3; exact h
theorem rk_ckV {l : Launch} {own C : String} {y : MethodName} {cc : ByteArray} {nL d d' n idx mc : Nat} {ret : Option FieldType} {pre : List rk_V → rk_M → Prop} {post : List rk_V → rk_M → rk_Z → rk_M → Prop} (hSp : rk_Sp l rk_cs y (.code y cc nL ret) d' pre post mc) (hw : Cond.code y cc nL ret ∈ lw_tbl ∧ Cond.initialized y.cls ∈ lw_tbl ∧ Cond.instanceMethod y ∈ lw_tbl ∧ Cond.selects C y y ∈ lw_tbl)
    (hl : Cond.methodLink own idx y ∈ lw_tbl ∨ Cond.methodLinkNest own idx y "OrdinalRink" ∈ lw_tbl) (hd : d' < d) (hL : nL ≤ 100) (hy : y.cls ≠ "java/lang/invoke/MethodHandle" ∧ y.cls ≠ "java/lang/invoke/VarHandle") (hpn : (parseMethodDescriptor y.desc).map (fun d => d.parameters.length) = some n)
    (hrc : ∀ as M, pre as M → ∃ t o r as', as = rk_r t o r :: as' ∧ rk_rcv C t) : rk_CK l own d (2 * idx) (n + 1, pre, post, mc) := ⟨y, cc, nL, ret, d', n, hd, hL, hSp, hw.1, hw.2.1, hy, hpn, Or.inl ⟨idx, C, rfl, rfl, hl, hw.2.2.1, hw.2.2.2, hrc⟩⟩
theorem rk_ckS {l : Launch} {own : String} {y : MethodName} {cc : ByteArray} {nL d d' n idx mc : Nat} {ret : Option FieldType} {pre : List rk_V → rk_M → Prop} {post : List rk_V → rk_M → rk_Z → rk_M → Prop} (hSp : rk_Sp l rk_cs y (.code y cc nL ret) d' pre post mc) (hw : Cond.code y cc nL ret ∈ lw_tbl ∧ Cond.initialized y.cls ∈ lw_tbl ∧ Cond.static y ∈ lw_tbl)
    (hl : Cond.methodLink own idx y ∈ lw_tbl ∨ Cond.methodLinkNest own idx y "OrdinalRink" ∈ lw_tbl) (hd : d' < d) (hL : nL ≤ 100) (hy : y.cls ≠ "java/lang/invoke/MethodHandle" ∧ y.cls ≠ "java/lang/invoke/VarHandle") (hpn : (parseMethodDescriptor y.desc).map (fun d => d.parameters.length) = some n) : rk_CK l own d (2 * idx + 1) (n, pre, post, mc) :=
  ⟨y, cc, nL, ret, d', n, hd, hL, hSp, hw.1, hw.2.1, hy, hpn, Or.inr ⟨idx, rfl, rfl, hl, hw.2.2⟩⟩
theorem rk_rcv_mo : rk_rcv "OrdinalRinkModel" 30 := ⟨by decide, fun L => Or.inl ⟨3, _, _, _, _, rfl, rfl, rfl⟩⟩
theorem rk_rcv_se : rk_rcv "OrdinalRink$Segment" 10 := ⟨by decide, fun L => Or.inl ⟨2, _, _, _, _, rfl, rfl, rfl⟩⟩
theorem rk_rcv_pr : rk_rcv "OrdinalRink$ProofReader" 6 := ⟨by decide, fun L => Or.inl ⟨1, _, _, _, _, rfl, rfl, rfl⟩⟩
theorem rk_rcv_ri : rk_rcv "OrdinalRink" 2 := ⟨by decide, fun L => Or.inl ⟨0, _, _, _, _, rfl, rfl, rfl⟩⟩
theorem rk_rcv_sb : ∀ t, t = 4 ∨ t = 5 → rk_rcv "java/lang/StringBuilder" t := by
  rintro t (rfl | rfl) <;> exact ⟨by decide, fun L => Or.inr ⟨rfl, rfl⟩⟩
end
section
/-! Contracts of the reference: its leaves -/
def rk_ct (f : Int → Prop) (h : ∀ j, Decidable (f j)) (n : Nat) : Int := rk_sm (fun j => @ite _ (f j) (h j) 1 0) n
theorem rk_ct_b (f : Int → Prop) (h : ∀ j, Decidable (f j)) : ∀ n : Nat, 0 ≤ rk_ct f h n ∧ rk_ct f h n ≤ n
  | 0 => ⟨Int.le_refl _, Int.le_refl _⟩
  | n + 1 => by
    have h1 := rk_ct_b f h n
    show 0 ≤ rk_ct f h n + @ite _ (f n) (h n) 1 0 ∧ rk_ct f h n + @ite _ (f n) (h n) 1 0 ≤ _
    by_cases hc : f n
    · rw [if_pos hc]; omega
    · rw [if_neg hc]; omega
theorem rk_ct_t {f : Int → Prop} {h : ∀ j, Decidable (f j)} {n : Nat} (hc : f n) : rk_ct f h (n + 1) = rk_ct f h n + 1 := by
  show rk_ct f h n + @ite _ (f n) (h n) 1 0 = _
  rw [if_pos hc]
theorem rk_ct_f {f : Int → Prop} {h : ∀ j, Decidable (f j)} {n : Nat} (hc : ¬ f n) : rk_ct f h (n + 1) = rk_ct f h n := by
  show rk_ct f h n + @ite _ (f n) (h n) 1 0 = _
  rw [if_neg hc]; omega
abbrev rk_one (x : Int) : rk_Z := .inl (some (rk_i x))
def pr_mo_thrown (M : rk_M) : Prop := True
def po_mo_thrown (M : rk_M) (z : rk_Z) (M' : rk_M) : Prop := z = rk_one (M 30 0 0 0) ∧ M' = M
def pp_mo_thrown (as : List rk_V) (M : rk_M) : Prop := as = [rk_r 30 0 0] ∧ pr_mo_thrown M
def qq_mo_thrown (as : List rk_V) (M : rk_M) (z : rk_Z) (M' : rk_M) : Prop := po_mo_thrown M z M'
set_option maxHeartbeats 4000000 in
set_option maxRecDepth 20000 in
theorem c_mo_thrown (l : Launch) : rk_Sp l rk_cs yn_mo_thrown (.code yn_mo_thrown prog_5_method_2_code 1 (some .int)) 0 pp_mo_thrown qq_mo_thrown 0 := by
  refine rk_mk (kc := kc_mo_thrown) (ft := ft_mo) (ca := []) (th := []) (stops := []) (rt := 1) ck_mo_thrown ftc_mo (fun _ h => absurd h List.not_mem_nil) (fun _ h => absurd h List.not_mem_nil) (Or.inr (Or.inl ⟨rfl, rfl⟩)) (by decide +kernel) (fun as M h => by rw [h.1]; exact ⟨Nat.le_of_ble_eq_true rfl, rk_nlok rfl⟩) ?_
  intro L as M G hp hrg hG
  obtain ⟨has, hP⟩ := hp
  subst has
  refine hG 9 _ _ _ _ _ rfl ?_
  exact And.intro (And.intro rfl rfl) (Nat.le_refl _)
def pr_mo_refused (M : rk_M) (w : Int) : Prop := True
def po_mo_refused (M : rk_M) (w : Int) (z : rk_Z) (M' : rk_M) : Prop := z = rk_one (if 0 < w then 1 else 0) ∧ M' = rk_up M 30 0 0 0 w
def pp_mo_refused (as : List rk_V) (M : rk_M) : Prop := as = [rk_r 30 0 0, rk_i (rk_ai as 1)] ∧ pr_mo_refused M (rk_ai as 1)
def qq_mo_refused (as : List rk_V) (M : rk_M) (z : rk_Z) (M' : rk_M) : Prop := po_mo_refused M (rk_ai as 1) z M'
set_option maxHeartbeats 4000000 in
set_option maxRecDepth 20000 in
theorem c_mo_refused (l : Launch) : rk_Sp l rk_cs yn_mo_refused (.code yn_mo_refused prog_5_method_3_code 2 (some .boolean)) 0 pp_mo_refused qq_mo_refused 0 := by
  refine rk_mk (kc := kc_mo_refused) (ft := ft_mo) (ca := []) (th := []) (stops := []) (rt := 2) ck_mo_refused ftc_mo (fun _ h => absurd h List.not_mem_nil) (fun _ h => absurd h List.not_mem_nil) (Or.inr (Or.inr (Or.inl ⟨rfl, rfl⟩))) (by decide +kernel) (fun as M h => by rw [h.1]; exact ⟨Nat.le_of_ble_eq_true rfl, rk_nlok rfl⟩) ?_
  intro L as M G hp hrg hG
  obtain ⟨has, hP⟩ := hp
  generalize rk_ai as 1 = w at has hP
  subst has
  refine hG 30 _ _ _ _ _ rfl ?_
  repeat' (first | refine And.intro ?_ ?_ | intro _)
  all_goals (first | omega | rfl | exact Or.inl rfl | exact Or.inr rfl | (show rk_one _ = rk_one (if 0 < w then 1 else 0); first | rw [if_pos (by omega)] | rw [if_neg (by omega)]))
def pr_mo_isSegment (M : rk_M) (s : Int) : Prop := True
def po_mo_isSegment (M : rk_M) (s : Int) (z : rk_Z) (M' : rk_M) : Prop := z = rk_one (if 0 ≤ s ∧ s < 3 then 1 else 0) ∧ M' = M
def pp_mo_isSegment (as : List rk_V) (M : rk_M) : Prop := as = [rk_i (rk_ai as 0)] ∧ pr_mo_isSegment M (rk_ai as 0)
def qq_mo_isSegment (as : List rk_V) (M : rk_M) (z : rk_Z) (M' : rk_M) : Prop := po_mo_isSegment M (rk_ai as 0) z M'
set_option maxHeartbeats 4000000 in
set_option maxRecDepth 20000 in
theorem c_mo_isSegment (l : Launch) : rk_Sp l rk_cs yn_mo_isSegment (.code yn_mo_isSegment prog_5_method_6_code 1 (some .boolean)) 0 pp_mo_isSegment qq_mo_isSegment 0 := by
  refine rk_mk (kc := kc_mo_isSegment) (ft := ft_mo) (ca := []) (th := []) (stops := []) (rt := 2) ck_mo_isSegment ftc_mo (fun _ h => absurd h List.not_mem_nil) (fun _ h => absurd h List.not_mem_nil) (Or.inr (Or.inr (Or.inl ⟨rfl, rfl⟩))) (by decide +kernel) (fun as M h => by rw [h.1]; exact ⟨Nat.le_of_ble_eq_true rfl, rk_nlok rfl⟩) ?_
  intro L as M G hp hrg hG
  obtain ⟨has, hP⟩ := hp
  generalize rk_ai as 0 = s at has hP
  subst has
  refine hG 30 _ _ _ _ _ rfl ?_
  repeat' (first | refine And.intro ?_ ?_ | intro _)
  all_goals (first | omega | rfl | exact Or.inl rfl | exact Or.inr rfl | (show rk_one _ = rk_one (if 0 ≤ s ∧ s < 3 then 1 else 0); first | rw [if_pos (by omega)] | rw [if_neg (by omega)]))
def pr_mo_isSkater (M : rk_M) (k : Int) : Prop := True
def po_mo_isSkater (M : rk_M) (k : Int) (z : rk_Z) (M' : rk_M) : Prop := z = rk_one (if 0 ≤ k ∧ k < M 30 0 0 1 then 1 else 0) ∧ M' = M
def pp_mo_isSkater (as : List rk_V) (M : rk_M) : Prop := as = [rk_r 30 0 0, rk_i (rk_ai as 1)] ∧ pr_mo_isSkater M (rk_ai as 1)
def qq_mo_isSkater (as : List rk_V) (M : rk_M) (z : rk_Z) (M' : rk_M) : Prop := po_mo_isSkater M (rk_ai as 1) z M'
set_option maxHeartbeats 4000000 in
set_option maxRecDepth 20000 in
theorem c_mo_isSkater (l : Launch) : rk_Sp l rk_cs yn_mo_isSkater (.code yn_mo_isSkater prog_5_method_7_code 2 (some .boolean)) 0 pp_mo_isSkater qq_mo_isSkater 0 := by
  refine rk_mk (kc := kc_mo_isSkater) (ft := ft_mo) (ca := []) (th := []) (stops := []) (rt := 2) ck_mo_isSkater ftc_mo (fun _ h => absurd h List.not_mem_nil) (fun _ h => absurd h List.not_mem_nil) (Or.inr (Or.inr (Or.inl ⟨rfl, rfl⟩))) (by decide +kernel) (fun as M h => by rw [h.1]; exact ⟨Nat.le_of_ble_eq_true rfl, rk_nlok rfl⟩) ?_
  intro L as M G hp hrg hG
  obtain ⟨has, hP⟩ := hp
  generalize rk_ai as 1 = k at has hP
  subst has
  refine hG 30 _ _ _ _ _ rfl ?_
  repeat' (first | refine And.intro ?_ ?_ | intro _)
  all_goals (first | omega | rfl | exact Or.inl rfl | exact Or.inr rfl | (show rk_one _ = rk_one (if 0 ≤ k ∧ k < M 30 0 0 1 then 1 else 0); first | rw [if_pos (by omega)] | rw [if_neg (by omega)]))
def pr_mo_isJudge (M : rk_M) (k : Int) : Prop := True
def po_mo_isJudge (M : rk_M) (k : Int) (z : rk_Z) (M' : rk_M) : Prop := z = rk_one (if 0 ≤ k ∧ k < M 30 0 0 2 then 1 else 0) ∧ M' = M
def pp_mo_isJudge (as : List rk_V) (M : rk_M) : Prop := as = [rk_r 30 0 0, rk_i (rk_ai as 1)] ∧ pr_mo_isJudge M (rk_ai as 1)
def qq_mo_isJudge (as : List rk_V) (M : rk_M) (z : rk_Z) (M' : rk_M) : Prop := po_mo_isJudge M (rk_ai as 1) z M'
set_option maxHeartbeats 4000000 in
set_option maxRecDepth 20000 in
theorem c_mo_isJudge (l : Launch) : rk_Sp l rk_cs yn_mo_isJudge (.code yn_mo_isJudge prog_5_method_8_code 2 (some .boolean)) 0 pp_mo_isJudge qq_mo_isJudge 0 := by
  refine rk_mk (kc := kc_mo_isJudge) (ft := ft_mo) (ca := []) (th := []) (stops := []) (rt := 2) ck_mo_isJudge ftc_mo (fun _ h => absurd h List.not_mem_nil) (fun _ h => absurd h List.not_mem_nil) (Or.inr (Or.inr (Or.inl ⟨rfl, rfl⟩))) (by decide +kernel) (fun as M h => by rw [h.1]; exact ⟨Nat.le_of_ble_eq_true rfl, rk_nlok rfl⟩) ?_
  intro L as M G hp hrg hG
  obtain ⟨has, hP⟩ := hp
  generalize rk_ai as 1 = k at has hP
  subst has
  refine hG 30 _ _ _ _ _ rfl ?_
  repeat' (first | refine And.intro ?_ ?_ | intro _)
  all_goals (first | omega | rfl | exact Or.inl rfl | exact Or.inr rfl | (show rk_one _ = rk_one (if 0 ≤ k ∧ k < M 30 0 0 2 then 1 else 0); first | rw [if_pos (by omega)] | rw [if_neg (by omega)]))
def pr_mo_isNumber (M : rk_M) (v : Int) : Prop := True
def po_mo_isNumber (M : rk_M) (v : Int) (z : rk_Z) (M' : rk_M) : Prop := z = rk_one (if 0 ≤ v ∧ v ≤ 60 then 1 else 0) ∧ M' = M
def pp_mo_isNumber (as : List rk_V) (M : rk_M) : Prop := as = [rk_i (rk_ai as 0)] ∧ pr_mo_isNumber M (rk_ai as 0)
def qq_mo_isNumber (as : List rk_V) (M : rk_M) (z : rk_Z) (M' : rk_M) : Prop := po_mo_isNumber M (rk_ai as 0) z M'
set_option maxHeartbeats 4000000 in
set_option maxRecDepth 20000 in
theorem c_mo_isNumber (l : Launch) : rk_Sp l rk_cs yn_mo_isNumber (.code yn_mo_isNumber prog_5_method_9_code 1 (some .boolean)) 0 pp_mo_isNumber qq_mo_isNumber 0 := by
  refine rk_mk (kc := kc_mo_isNumber) (ft := ft_mo) (ca := []) (th := []) (stops := []) (rt := 2) ck_mo_isNumber ftc_mo (fun _ h => absurd h List.not_mem_nil) (fun _ h => absurd h List.not_mem_nil) (Or.inr (Or.inr (Or.inl ⟨rfl, rfl⟩))) (by decide +kernel) (fun as M h => by rw [h.1]; exact ⟨Nat.le_of_ble_eq_true rfl, rk_nlok rfl⟩) ?_
  intro L as M G hp hrg hG
  obtain ⟨has, hP⟩ := hp
  generalize rk_ai as 0 = v at has hP
  subst has
  refine hG 30 _ _ _ _ _ rfl ?_
  repeat' (first | refine And.intro ?_ ?_ | intro _)
  all_goals (first | omega | rfl | exact Or.inl rfl | exact Or.inr rfl | (show rk_one _ = rk_one (if 0 ≤ v ∧ v ≤ 60 then 1 else 0); first | rw [if_pos (by omega)] | rw [if_neg (by omega)]))
def pr_mo_put (M : rk_M) (n is f s : Int) : Prop := 0 ≤ n ∧ n < 270 ∧ (is = 0 ∨ is = 1)
def po_mo_put (M : rk_M) (n is f s : Int) (z : rk_Z) (M' : rk_M) : Prop := z = .inl none ∧ M' = rk_up (rk_up (rk_up M 31 0 0 n is) 32 0 0 n f) 33 0 0 n s
def pp_mo_put (as : List rk_V) (M : rk_M) : Prop := as = [rk_r 30 0 0, rk_i (rk_ai as 1), rk_i (rk_ai as 2), rk_i (rk_ai as 3), rk_i (rk_ai as 4)] ∧ pr_mo_put M (rk_ai as 1) (rk_ai as 2) (rk_ai as 3) (rk_ai as 4)
def qq_mo_put (as : List rk_V) (M : rk_M) (z : rk_Z) (M' : rk_M) : Prop := po_mo_put M (rk_ai as 1) (rk_ai as 2) (rk_ai as 3) (rk_ai as 4) z M'
set_option maxHeartbeats 4000000 in
set_option maxRecDepth 20000 in
theorem c_mo_put (l : Launch) : rk_Sp l rk_cs yn_mo_put (.code yn_mo_put prog_5_method_12_code 5 none) 0 pp_mo_put qq_mo_put 0 := by
  refine rk_mk (kc := kc_mo_put) (ft := ft_mo) (ca := []) (th := []) (stops := []) (rt := 0) ck_mo_put ftc_mo (fun _ h => absurd h List.not_mem_nil) (fun _ h => absurd h List.not_mem_nil) (Or.inl ⟨rfl, rfl⟩) (by decide +kernel) (fun as M h => by rw [h.1]; exact ⟨Nat.le_of_ble_eq_true rfl, rk_nlok rfl⟩) ?_
  intro L as M G hp hrg hG
  obtain ⟨has, hP⟩ := hp
  generalize rk_ai as 1 = n at has hP
  generalize rk_ai as 2 = is at has hP
  generalize rk_ai as 3 = f at has hP
  generalize rk_ai as 4 = s at has hP
  subst has
  obtain ⟨h0, h1, h2⟩ := hP
  refine hG 40 _ _ _ _ _ rfl ?_
  repeat' (first | refine And.intro ?_ ?_ | intro _)
  all_goals (first | omega | rfl | exact h2)
def rk_pan (M : rk_M) (s : Int) (n : Nat) : Int := rk_ct (fun j => M 35 0 0 (9 * s + j) = 0) (fun _ => inferInstance) n
def pr_mo_panel (M : rk_M) (s : Int) : Prop := 0 ≤ s ∧ s < 3 ∧ 0 ≤ M 30 0 0 2 ∧ M 30 0 0 2 ≤ 9
def po_mo_panel (M : rk_M) (s : Int) (z : rk_Z) (M' : rk_M) : Prop := z = rk_one (rk_pan M s (M 30 0 0 2).toNat) ∧ M' = M
def pp_mo_panel (as : List rk_V) (M : rk_M) : Prop := as = [rk_r 30 0 0, rk_i (rk_ai as 1)] ∧ pr_mo_panel M (rk_ai as 1)
def qq_mo_panel (as : List rk_V) (M : rk_M) (z : rk_Z) (M' : rk_M) : Prop := po_mo_panel M (rk_ai as 1) z M'
set_option maxHeartbeats 4000000 in
set_option maxRecDepth 20000 in
theorem c_mo_panel (l : Launch) : rk_Sp l rk_cs yn_mo_panel (.code yn_mo_panel prog_5_method_14_code 4 (some .int)) 0 pp_mo_panel qq_mo_panel 0 := by
  refine rk_mk (kc := kc_mo_panel) (ft := ft_mo) (ca := []) (th := []) (stops := [4]) (rt := 1) ck_mo_panel ftc_mo (fun _ h => absurd h List.not_mem_nil) (fun _ h => absurd h List.not_mem_nil) (Or.inr (Or.inl ⟨rfl, rfl⟩)) (by decide +kernel) (fun as M h => by rw [h.1]; exact ⟨Nat.le_of_ble_eq_true rfl, rk_nlok rfl⟩) ?_
  intro L as M G hp hrg hG
  obtain ⟨has, hP⟩ := hp
  generalize rk_ai as 1 = s at has hP
  subst has
  obtain ⟨hs0, hs1, hj0, hj1⟩ := hP
  refine hG 9 _ _ _ _ _ rfl ?_
  refine rk_loop (P := fun i => G M 4 [rk_r 30 0 0, rk_i s, rk_i (rk_pan M s i), rk_i i] [] 0) (M 30 0 0 2).toNat ?_ 0 (Nat.zero_le _)
  intro i hi hnext
  have hb := rk_ct_b (fun j => M 35 0 0 (9 * s + j) = 0) (fun _ => inferInstance) i
  change 0 ≤ rk_pan M s i ∧ rk_pan M s i ≤ i at hb
  refine hG 40 _ _ _ _ _ rfl ?_
  refine And.intro ?_ ?_
  · intro h
    have hi' : i = (M 30 0 0 2).toNat := by omega
    subst hi'
    exact And.intro (And.intro rfl rfl) (Nat.le_refl _)
  · intro h
    repeat' (first | refine And.intro ?_ ?_ | intro _)
    all_goals (try omega)
    · rename_i hc
      refine rk_gto (hnext (by omega)) rfl ?_ rfl
      have e : rk_pan M s (i + 1) = rk_pan M s i + 1 := rk_ct_t hc
      rw [e]; rfl
    · rename_i hc
      refine rk_gto (hnext (by omega)) rfl ?_ rfl
      have e : rk_pan M s (i + 1) = rk_pan M s i := rk_ct_f hc
      rw [e]; rfl
end
section
/-! Contracts of the reference: more leaves -/
def pr_mo_starts (M : rk_M) (s k : Int) : Prop := 0 ≤ k ∧ M 30 0 0 1 ≤ 10
def po_mo_starts (M : rk_M) (s k : Int) (z : rk_Z) (M' : rk_M) : Prop := z = rk_one (if k < M 30 0 0 1 ∧ s < M 39 0 0 k then 1 else 0) ∧ M' = M
def pp_mo_starts (as : List rk_V) (M : rk_M) : Prop := as = [rk_r 30 0 0, rk_i (rk_ai as 1), rk_i (rk_ai as 2)] ∧ pr_mo_starts M (rk_ai as 1) (rk_ai as 2)
def qq_mo_starts (as : List rk_V) (M : rk_M) (z : rk_Z) (M' : rk_M) : Prop := po_mo_starts M (rk_ai as 1) (rk_ai as 2) z M'
set_option maxHeartbeats 4000000 in
set_option maxRecDepth 20000 in
theorem c_mo_starts (l : Launch) : rk_Sp l rk_cs yn_mo_starts (.code yn_mo_starts prog_5_method_17_code 3 (some .boolean)) 0 pp_mo_starts qq_mo_starts 0 := by
  refine rk_mk (kc := kc_mo_starts) (ft := ft_mo) (ca := []) (th := []) (stops := []) (rt := 2) ck_mo_starts ftc_mo (fun _ h => absurd h List.not_mem_nil) (fun _ h => absurd h List.not_mem_nil) (Or.inr (Or.inr (Or.inl ⟨rfl, rfl⟩))) (by decide +kernel) (fun as M h => by rw [h.1]; exact ⟨Nat.le_of_ble_eq_true rfl, rk_nlok rfl⟩) ?_
  intro L as M G hp hrg hG
  obtain ⟨has, hP⟩ := hp
  generalize rk_ai as 1 = s at has hP
  generalize rk_ai as 2 = k at has hP
  subst has
  obtain ⟨h0, h1⟩ := hP
  refine hG 40 _ _ _ _ _ rfl ?_
  repeat' (first | refine And.intro ?_ ?_ | intro _)
  all_goals (first | omega | rfl | exact Or.inl rfl | exact Or.inr rfl | (show rk_one _ = rk_one (if k < M 30 0 0 1 ∧ s < M 39 0 0 k then 1 else 0); first | rw [if_pos (by omega)] | rw [if_neg (by omega)]))
def pr_mo_lessened (M : rk_M) (v b : Int) : Prop := 0 ≤ b ∧ rk_rg v
def po_mo_lessened (M : rk_M) (v b : Int) (z : rk_Z) (M' : rk_M) : Prop := z = rk_one (if b < v then v - b else 0) ∧ M' = M
def pp_mo_lessened (as : List rk_V) (M : rk_M) : Prop := as = [rk_r 30 0 0, rk_i (rk_ai as 1), rk_i (rk_ai as 2)] ∧ pr_mo_lessened M (rk_ai as 1) (rk_ai as 2)
def qq_mo_lessened (as : List rk_V) (M : rk_M) (z : rk_Z) (M' : rk_M) : Prop := po_mo_lessened M (rk_ai as 1) (rk_ai as 2) z M'
set_option maxHeartbeats 4000000 in
set_option maxRecDepth 20000 in
theorem c_mo_lessened (l : Launch) : rk_Sp l rk_cs yn_mo_lessened (.code yn_mo_lessened prog_5_method_18_code 3 (some .int)) 0 pp_mo_lessened qq_mo_lessened 0 := by
  refine rk_mk (kc := kc_mo_lessened) (ft := ft_mo) (ca := []) (th := []) (stops := []) (rt := 1) ck_mo_lessened ftc_mo (fun _ h => absurd h List.not_mem_nil) (fun _ h => absurd h List.not_mem_nil) (Or.inr (Or.inl ⟨rfl, rfl⟩)) (by decide +kernel) (fun as M h => by rw [h.1]; exact ⟨Nat.le_of_ble_eq_true rfl, rk_nlok rfl⟩) ?_
  intro L as M G hp hrg hG
  obtain ⟨has, hP⟩ := hp
  generalize rk_ai as 1 = v at has hP
  generalize rk_ai as 2 = b at has hP
  subst has
  obtain ⟨h0, h1, h2⟩ := hP
  refine hG 40 _ _ _ _ _ rfl ?_
  repeat' (first | refine And.intro ?_ ?_ | intro _)
  all_goals (first | omega | rfl | (show rk_one _ = rk_one (if b < v then v - b else 0); first | rw [if_pos (by omega)] | rw [if_neg (by omega)]))
/-- the first of four numbers in which two skaters differ -/
def rk_pt (M : rk_M) (a b : Int) : Int := if M 41 0 0 (4 * a) ≠ M 41 0 0 (4 * b) then 1 else if M 41 0 0 (4 * a + 1) ≠ M 41 0 0 (4 * b + 1) then 2 else if M 41 0 0 (4 * a + 2) ≠ M 41 0 0 (4 * b + 2) then 3 else if M 41 0 0 (4 * a + 3) ≠ M 41 0 0 (4 * b + 3) then 4 else 0
def pr_mo_parts (M : rk_M) (a b : Int) : Prop := 0 ≤ a ∧ a < 10 ∧ 0 ≤ b ∧ b < 10
def po_mo_parts (M : rk_M) (a b : Int) (z : rk_Z) (M' : rk_M) : Prop := z = rk_one (rk_pt M a b) ∧ M' = M
def pp_mo_parts (as : List rk_V) (M : rk_M) : Prop := as = [rk_r 30 0 0, rk_i (rk_ai as 1), rk_i (rk_ai as 2)] ∧ pr_mo_parts M (rk_ai as 1) (rk_ai as 2)
def qq_mo_parts (as : List rk_V) (M : rk_M) (z : rk_Z) (M' : rk_M) : Prop := po_mo_parts M (rk_ai as 1) (rk_ai as 2) z M'
set_option maxHeartbeats 4000000 in
set_option maxRecDepth 20000 in
theorem c_mo_parts (l : Launch) : rk_Sp l rk_cs yn_mo_parts (.code yn_mo_parts prog_5_method_23_code 4 (some .int)) 0 pp_mo_parts qq_mo_parts 0 := by
  refine rk_mk (kc := kc_mo_parts) (ft := ft_mo) (ca := []) (th := []) (stops := []) (rt := 1) ck_mo_parts ftc_mo (fun _ h => absurd h List.not_mem_nil) (fun _ h => absurd h List.not_mem_nil) (Or.inr (Or.inl ⟨rfl, rfl⟩)) (by decide +kernel) (fun as M h => by rw [h.1]; exact ⟨Nat.le_of_ble_eq_true rfl, rk_nlok rfl⟩) ?_
  intro L as M G hp hrg hG
  obtain ⟨has, hP⟩ := hp
  generalize rk_ai as 1 = a at has hP
  generalize rk_ai as 2 = b at has hP
  subst has
  obtain ⟨h0, h1, h2, h3⟩ := hP
  have e0 : ∀ x : Int, x + 1 - 1 = x := fun x => by omega
  have e1 : ∀ x : Int, x + (1 + 1) - 1 = x + 1 := fun x => by omega
  have e2 : ∀ x : Int, x + (1 + 1 + 1) - 1 = x + 2 := fun x => by omega
  have e3 : ∀ x : Int, x + (1 + 1 + 1 + 1) - 1 = x + 3 := fun x => by omega
  refine hG 150 _ _ _ _ _ rfl ?_
  repeat' (first | refine And.intro ?_ ?_ | intro _)
  all_goals (try omega)
  all_goals (first | rfl | skip)
  all_goals (show rk_one _ = rk_one (rk_pt M a b); simp only [e0, e1, e2, e3] at *; simp [rk_pt, *])
def pr_mo_length (M : rk_M) : Prop := True
def po_mo_length (M : rk_M) (z : rk_Z) (M' : rk_M) : Prop := z = rk_one (M 30 0 0 17) ∧ M' = rk_up M 30 0 0 0 0
def pp_mo_length (as : List rk_V) (M : rk_M) : Prop := as = [rk_r 30 0 0] ∧ pr_mo_length M
def qq_mo_length (as : List rk_V) (M : rk_M) (z : rk_Z) (M' : rk_M) : Prop := po_mo_length M z M'
set_option maxHeartbeats 4000000 in
set_option maxRecDepth 20000 in
theorem c_mo_length (l : Launch) : rk_Sp l rk_cs yn_mo_length (.code yn_mo_length prog_5_method_44_code 1 (some .int)) 0 pp_mo_length qq_mo_length 0 := by
  refine rk_mk (kc := kc_mo_length) (ft := ft_mo) (ca := []) (th := []) (stops := []) (rt := 1) ck_mo_length ftc_mo (fun _ h => absurd h List.not_mem_nil) (fun _ h => absurd h List.not_mem_nil) (Or.inr (Or.inl ⟨rfl, rfl⟩)) (by decide +kernel) (fun as M h => by rw [h.1]; exact ⟨Nat.le_of_ble_eq_true rfl, rk_nlok rfl⟩) ?_
  intro L as M G hp hrg hG
  obtain ⟨has, hP⟩ := hp
  subst has
  refine hG 20 _ _ _ _ _ rfl ?_
  refine And.intro (And.intro ?_ rfl) (Nat.le_refl _)
  exact congrArg rk_one (rk_up_ne (by omega))
def pr_mo_charAt (M : rk_M) (p : Int) : Prop := M 30 0 0 17 ≤ 60 ∧ ∀ j, 0 ≤ j → j < 60 → 0 ≤ M 44 0 0 j ∧ M 44 0 0 j < 65536
def po_mo_charAt (M : rk_M) (p : Int) (z : rk_Z) (M' : rk_M) : Prop := z = rk_one (if 0 ≤ p ∧ p < M 30 0 0 17 then M 44 0 0 p else 32) ∧ M' = rk_up M 30 0 0 0 0
def pp_mo_charAt (as : List rk_V) (M : rk_M) : Prop := as = [rk_r 30 0 0, rk_i (rk_ai as 1)] ∧ pr_mo_charAt M (rk_ai as 1)
def qq_mo_charAt (as : List rk_V) (M : rk_M) (z : rk_Z) (M' : rk_M) : Prop := po_mo_charAt M (rk_ai as 1) z M'
set_option maxHeartbeats 4000000 in
set_option maxRecDepth 20000 in
theorem c_mo_charAt (l : Launch) : rk_Sp l rk_cs yn_mo_charAt (.code yn_mo_charAt prog_5_method_45_code 2 (some .char)) 0 pp_mo_charAt qq_mo_charAt 0 := by
  refine rk_mk (kc := kc_mo_charAt) (ft := ft_mo) (ca := []) (th := []) (stops := []) (rt := 3) ck_mo_charAt ftc_mo (fun _ h => absurd h List.not_mem_nil) (fun _ h => absurd h List.not_mem_nil) (Or.inr (Or.inr (Or.inr (Or.inl ⟨rfl, rfl⟩)))) (by decide +kernel) (fun as M h => by rw [h.1]; exact ⟨Nat.le_of_ble_eq_true rfl, rk_nlok rfl⟩) ?_
  intro L as M G hp hrg hG
  obtain ⟨has, hP⟩ := hp
  generalize rk_ai as 1 = p at has hP
  subst has
  obtain ⟨h0, h1⟩ := hP
  have e17 : rk_up M 30 0 0 0 0 30 0 0 17 = M 30 0 0 17 := rk_up_ne (by omega)
  have e44 : ∀ j, rk_up M 30 0 0 0 0 44 0 0 j = M 44 0 0 j := fun j => rk_up_ne (by omega)
  refine hG 60 _ _ _ _ _ rfl ?_
  repeat' (first | refine And.intro ?_ ?_ | intro _)
  all_goals (try simp only [e17, e44] at *)
  all_goals (try omega)
  all_goals (first | rfl | skip)
  all_goals (first | (have := h1 p (by omega) (by omega); omega) | skip)
  all_goals (show rk_one _ = rk_one (if 0 ≤ p ∧ p < M 30 0 0 17 then M 44 0 0 p else 32); first | (rw [if_neg (by omega)]; done) | (rw [if_pos (by omega)]; have := h1 p (by omega) (by omega); rw [Int.emod_eq_of_lt (by omega) (by omega)]))
def pr_mo_type (M : rk_M) (c : Int) : Prop := 0 ≤ c ∧ c < 65536 ∧ 0 ≤ M 30 0 0 14 ∧ M 30 0 0 14 ≤ 40
def po_mo_type (M : rk_M) (c : Int) (z : rk_Z) (M' : rk_M) : Prop := (if 32 ≤ c ∧ c ≤ 126 ∧ M 30 0 0 14 ≠ 40 then z = rk_one 1 ∧ M' = rk_up (rk_up (rk_up M 30 0 0 0 0) 42 0 0 (M 30 0 0 14) c) 30 0 0 14 (M 30 0 0 14 + 1) else z = rk_one 0 ∧ M' = rk_up M 30 0 0 0 0)
def pp_mo_type (as : List rk_V) (M : rk_M) : Prop := as = [rk_r 30 0 0, rk_i (rk_ai as 1)] ∧ pr_mo_type M (rk_ai as 1)
def qq_mo_type (as : List rk_V) (M : rk_M) (z : rk_Z) (M' : rk_M) : Prop := po_mo_type M (rk_ai as 1) z M'
set_option maxHeartbeats 4000000 in
set_option maxRecDepth 20000 in
theorem c_mo_type (l : Launch) : rk_Sp l rk_cs yn_mo_type (.code yn_mo_type prog_5_method_41_code 2 (some .boolean)) 0 pp_mo_type qq_mo_type 0 := by
  refine rk_mk (kc := kc_mo_type) (ft := ft_mo) (ca := []) (th := []) (stops := []) (rt := 2) ck_mo_type ftc_mo (fun _ h => absurd h List.not_mem_nil) (fun _ h => absurd h List.not_mem_nil) (Or.inr (Or.inr (Or.inl ⟨rfl, rfl⟩))) (by decide +kernel) (fun as M h => by rw [h.1]; exact ⟨Nat.le_of_ble_eq_true rfl, rk_nlok rfl⟩) ?_
  intro L as M G hp hrg hG
  obtain ⟨has, hP⟩ := hp
  generalize rk_ai as 1 = c at has hP
  subst has
  obtain ⟨h0, h1, h2, h3⟩ := hP
  have e14 : rk_up M 30 0 0 0 0 30 0 0 14 = M 30 0 0 14 := rk_up_ne (by omega)
  have f14 : ∀ j v, rk_up (rk_up M 30 0 0 0 0) 42 0 0 j v 30 0 0 14 = M 30 0 0 14 := fun j v => (rk_up_ne (by omega)).trans e14
  refine hG 80 _ _ _ _ _ rfl ?_
  repeat' (first | (refine And.intro ?_ ?_) | exact Or.inl rfl | exact Or.inr rfl | intro _)
  all_goals (try (first | omega | (simp only [e14, f14] at *; omega)))
  all_goals (show (if 32 ≤ c ∧ c ≤ 126 ∧ M 30 0 0 14 ≠ 40 then _ else _); first | (rw [if_neg (by first | omega | (simp only [e14] at *; omega))]; exact ⟨rfl, rfl⟩) | (rw [if_pos (by first | omega | (simp only [e14] at *; omega))]; exact ⟨rfl, by rw [f14, e14]; rfl⟩))
end
section
/-! Contracts of the class's Segment: leaves -/
theorem rk_ct_mono {f : Int → Prop} {h : ∀ j, Decidable (f j)} {i : Nat} : ∀ n : Nat, i ≤ n → rk_ct f h i ≤ rk_ct f h n
  | 0, hi => by rw [Nat.le_zero.mp hi]; exact Int.le_refl _
  | n + 1, hi => by
    by_cases hn : i ≤ n
    · have h1 := rk_ct_mono n hn (f := f) (h := h)
      show _ ≤ rk_ct f h n + @ite _ (f n) (h n) 1 0
      by_cases hc : f n
      · rw [if_pos hc]; omega
      · rw [if_neg hc]; omega
    · rw [show i = n + 1 by omega]; exact Int.le_refl _
def pr_jd_max (M : rk_M) (a b : Int) : Prop := True
def po_jd_max (M : rk_M) (a b : Int) (z : rk_Z) (M' : rk_M) : Prop := z = rk_one (if a < b then b else a) ∧ M' = M
def pp_jd_max (as : List rk_V) (M : rk_M) : Prop := as = [rk_i (rk_ai as 0), rk_i (rk_ai as 1)] ∧ pr_jd_max M (rk_ai as 0) (rk_ai as 1)
def qq_jd_max (as : List rk_V) (M : rk_M) (z : rk_Z) (M' : rk_M) : Prop := po_jd_max M (rk_ai as 0) (rk_ai as 1) z M'
set_option maxHeartbeats 4000000 in
set_option maxRecDepth 20000 in
theorem c_jd_max (l : Launch) : rk_Sp l rk_cs yn_jd_max (.code yn_jd_max prog_14_method_65_code 2 (some .int)) 0 pp_jd_max qq_jd_max 0 := by
  refine rk_mkF (kc := kc_jd_max) (ft := ft_jd) (ca := []) (th := []) (stops := []) (rt := 1) ck_jd_max ftc_jd_max (fun _ h => absurd h List.not_mem_nil) (fun _ h => absurd h List.not_mem_nil) (Or.inr (Or.inl ⟨rfl, rfl⟩)) (by decide +kernel) (fun as M h => by rw [h.1]; exact ⟨Nat.le_of_ble_eq_true rfl, rk_nlok rfl⟩) ?_
  intro L as M G hp hrg hG
  obtain ⟨has, hP⟩ := hp
  generalize rk_ai as 0 = a at has hP
  generalize rk_ai as 1 = b at has hP
  subst has
  refine hG 30 _ _ _ _ _ rfl ?_
  repeat' (first | refine And.intro ?_ ?_ | intro _)
  all_goals (first | omega | rfl | (show rk_one _ = rk_one (if a < b then b else a); first | rw [if_pos (by omega)] | rw [if_neg (by omega)]))
def pr_jd_min (M : rk_M) (a b : Int) : Prop := True
def po_jd_min (M : rk_M) (a b : Int) (z : rk_Z) (M' : rk_M) : Prop := z = rk_one (if b < a then b else a) ∧ M' = M
def pp_jd_min (as : List rk_V) (M : rk_M) : Prop := as = [rk_i (rk_ai as 0), rk_i (rk_ai as 1)] ∧ pr_jd_min M (rk_ai as 0) (rk_ai as 1)
def qq_jd_min (as : List rk_V) (M : rk_M) (z : rk_Z) (M' : rk_M) : Prop := po_jd_min M (rk_ai as 0) (rk_ai as 1) z M'
set_option maxHeartbeats 4000000 in
set_option maxRecDepth 20000 in
theorem c_jd_min (l : Launch) : rk_Sp l rk_cs yn_jd_min (.code yn_jd_min prog_14_method_69_code 2 (some .int)) 0 pp_jd_min qq_jd_min 0 := by
  refine rk_mkF (kc := kc_jd_min) (ft := ft_jd) (ca := []) (th := []) (stops := []) (rt := 1) ck_jd_min ftc_jd_min (fun _ h => absurd h List.not_mem_nil) (fun _ h => absurd h List.not_mem_nil) (Or.inr (Or.inl ⟨rfl, rfl⟩)) (by decide +kernel) (fun as M h => by rw [h.1]; exact ⟨Nat.le_of_ble_eq_true rfl, rk_nlok rfl⟩) ?_
  intro L as M G hp hrg hG
  obtain ⟨has, hP⟩ := hp
  generalize rk_ai as 0 = a at has hP
  generalize rk_ai as 1 = b at has hP
  subst has
  refine hG 30 _ _ _ _ _ rfl ?_
  repeat' (first | refine And.intro ?_ ?_ | intro _)
  all_goals (first | omega | rfl | (show rk_one _ = rk_one (if b < a then b else a); first | rw [if_pos (by omega)] | rw [if_neg (by omega)]))
def pr_se_setMark (M : rk_M) (o j k f s : Int) : Prop := 0 ≤ j ∧ j < 9 ∧ 0 ≤ k ∧ k < 10
def po_se_setMark (M : rk_M) (o j k f s : Int) (z : rk_Z) (M' : rk_M) : Prop := z = .inl none ∧ M' = rk_up (rk_up M 14 o j k f) 16 o j k s
def pp_se_setMark (as : List rk_V) (M : rk_M) : Prop := as = [rk_r 10 (rk_ao as) 0, rk_i (rk_ai as 1), rk_i (rk_ai as 2), rk_i (rk_ai as 3), rk_i (rk_ai as 4)] ∧ pr_se_setMark M (rk_ao as) (rk_ai as 1) (rk_ai as 2) (rk_ai as 3) (rk_ai as 4)
def qq_se_setMark (as : List rk_V) (M : rk_M) (z : rk_Z) (M' : rk_M) : Prop := po_se_setMark M (rk_ao as) (rk_ai as 1) (rk_ai as 2) (rk_ai as 3) (rk_ai as 4) z M'
set_option maxHeartbeats 4000000 in
set_option maxRecDepth 20000 in
theorem c_se_setMark (l : Launch) : rk_Sp l rk_cs yn_se_setMark (.code yn_se_setMark prog_3_method_3_code 5 none) 0 pp_se_setMark qq_se_setMark 0 := by
  refine rk_mk (kc := kc_se_setMark) (ft := ft_se) (ca := []) (th := []) (stops := []) (rt := 0) ck_se_setMark ftc_se (fun _ h => absurd h List.not_mem_nil) (fun _ h => absurd h List.not_mem_nil) (Or.inl ⟨rfl, rfl⟩) (by decide +kernel) (fun as M h => by rw [h.1]; exact ⟨Nat.le_of_ble_eq_true rfl, rk_nlok rfl⟩) ?_
  intro L as M G hp hrg hG
  obtain ⟨has, hP⟩ := hp
  generalize rk_ao as = o at has hP
  generalize rk_ai as 1 = j at has hP
  generalize rk_ai as 2 = k at has hP
  generalize rk_ai as 3 = f at has hP
  generalize rk_ai as 4 = s at has hP
  subst has
  obtain ⟨h0, h1, h2, h3⟩ := hP
  refine hG 40 _ _ _ _ _ rfl ?_
  repeat' (first | refine And.intro ?_ ?_ | intro _)
  all_goals (first | omega | rfl)
def pr_se_replaceDeduction (M : rk_M) (o w k t : Int) : Prop := 0 ≤ w ∧ w < 2 ∧ 0 ≤ k ∧ k < 10
def po_se_replaceDeduction (M : rk_M) (o w k t : Int) (z : rk_Z) (M' : rk_M) : Prop := z = rk_one (M 18 o w k) ∧ M' = rk_up M 18 o w k t
def pp_se_replaceDeduction (as : List rk_V) (M : rk_M) : Prop := as = [rk_r 10 (rk_ao as) 0, rk_i (rk_ai as 1), rk_i (rk_ai as 2), rk_i (rk_ai as 3)] ∧ pr_se_replaceDeduction M (rk_ao as) (rk_ai as 1) (rk_ai as 2) (rk_ai as 3)
def qq_se_replaceDeduction (as : List rk_V) (M : rk_M) (z : rk_Z) (M' : rk_M) : Prop := po_se_replaceDeduction M (rk_ao as) (rk_ai as 1) (rk_ai as 2) (rk_ai as 3) z M'
set_option maxHeartbeats 4000000 in
set_option maxRecDepth 20000 in
theorem c_se_replaceDeduction (l : Launch) : rk_Sp l rk_cs yn_se_replaceDeduction (.code yn_se_replaceDeduction prog_3_method_4_code 5 (some .int)) 0 pp_se_replaceDeduction qq_se_replaceDeduction 0 := by
  refine rk_mk (kc := kc_se_replaceDeduction) (ft := ft_se) (ca := []) (th := []) (stops := []) (rt := 1) ck_se_replaceDeduction ftc_se (fun _ h => absurd h List.not_mem_nil) (fun _ h => absurd h List.not_mem_nil) (Or.inr (Or.inl ⟨rfl, rfl⟩)) (by decide +kernel) (fun as M h => by rw [h.1]; exact ⟨Nat.le_of_ble_eq_true rfl, rk_nlok rfl⟩) ?_
  intro L as M G hp hrg hG
  obtain ⟨has, hP⟩ := hp
  generalize rk_ao as = o at has hP
  generalize rk_ai as 1 = w at has hP
  generalize rk_ai as 2 = k at has hP
  generalize rk_ai as 3 = t at has hP
  subst has
  obtain ⟨h0, h1, h2, h3⟩ := hP
  refine hG 40 _ _ _ _ _ rfl ?_
  repeat' (first | refine And.intro ?_ ?_ | intro _)
  all_goals (first | omega | rfl)
/-- how many judges of the panel, starters, starters that a judge has not marked -/
def rs_pan (M : rk_M) (o : Int) (n : Nat) : Int := rk_ct (fun j => M 12 o 0 j = 0) (fun _ => inferInstance) n
def rs_sta (M : rk_M) (o : Int) (n : Nat) : Int := rk_ct (fun k => M 11 o 0 k ≠ 0) (fun _ => inferInstance) n
def rs_bad (M : rk_M) (o j : Int) (n : Nat) : Int := rk_ct (fun k => M 11 o 0 k ≠ 0 ∧ M 14 o j k = -1) (fun _ => inferInstance) n
def pr_se_panelSize (M : rk_M) (o : Int) : Prop := 0 ≤ M 10 o 0 4 ∧ M 10 o 0 4 ≤ 9
def po_se_panelSize (M : rk_M) (o : Int) (z : rk_Z) (M' : rk_M) : Prop := z = rk_one (rs_pan M o (M 10 o 0 4).toNat) ∧ M' = M
def pp_se_panelSize (as : List rk_V) (M : rk_M) : Prop := as = [rk_r 10 (rk_ao as) 0] ∧ pr_se_panelSize M (rk_ao as)
def qq_se_panelSize (as : List rk_V) (M : rk_M) (z : rk_Z) (M' : rk_M) : Prop := po_se_panelSize M (rk_ao as) z M'
set_option maxHeartbeats 4000000 in
set_option maxRecDepth 20000 in
theorem c_se_panelSize (l : Launch) : rk_Sp l rk_cs yn_se_panelSize (.code yn_se_panelSize prog_3_method_5_code 3 (some .int)) 0 pp_se_panelSize qq_se_panelSize 0 := by
  refine rk_mk (kc := kc_se_panelSize) (ft := ft_se) (ca := []) (th := []) (stops := [4]) (rt := 1) ck_se_panelSize ftc_se (fun _ h => absurd h List.not_mem_nil) (fun _ h => absurd h List.not_mem_nil) (Or.inr (Or.inl ⟨rfl, rfl⟩)) (by decide +kernel) (fun as M h => by rw [h.1]; exact ⟨Nat.le_of_ble_eq_true rfl, rk_nlok rfl⟩) ?_
  intro L as M G hp hrg hG
  obtain ⟨has, hP⟩ := hp
  generalize rk_ao as = o at has hP
  subst has
  obtain ⟨hj0, hj1⟩ := hP
  refine hG 9 _ _ _ _ _ rfl ?_
  refine rk_loop (P := fun i => G M 4 [rk_r 10 o 0, rk_i (rs_pan M o i), rk_i i] [] 0) (M 10 o 0 4).toNat ?_ 0 (Nat.zero_le _)
  intro i hi hnext
  have hb := rk_ct_b (fun j => M 12 o 0 j = 0) (fun _ => inferInstance) i
  change 0 ≤ rs_pan M o i ∧ rs_pan M o i ≤ i at hb
  refine hG 40 _ _ _ _ _ rfl ?_
  refine And.intro ?_ ?_
  · intro h
    have hi' : i = (M 10 o 0 4).toNat := by omega
    subst hi'
    exact And.intro (And.intro rfl rfl) (Nat.le_refl _)
  · intro h
    repeat' (first | refine And.intro ?_ ?_ | intro _)
    all_goals (try omega)
    · rename_i hc
      refine rk_gto (hnext (by omega)) rfl ?_ rfl
      have e : rs_pan M o (i + 1) = rs_pan M o i := rk_ct_f hc
      rw [e]; rfl
    · rename_i hc
      refine rk_gto (hnext (by omega)) rfl ?_ rfl
      have e : rs_pan M o (i + 1) = rs_pan M o i + 1 := rk_ct_t hc
      rw [e]; rfl
def pr_se_starterCount (M : rk_M) (o : Int) : Prop := 0 ≤ M 10 o 0 3 ∧ M 10 o 0 3 ≤ 10
def po_se_starterCount (M : rk_M) (o : Int) (z : rk_Z) (M' : rk_M) : Prop := z = rk_one (rs_sta M o (M 10 o 0 3).toNat) ∧ M' = M
def pp_se_starterCount (as : List rk_V) (M : rk_M) : Prop := as = [rk_r 10 (rk_ao as) 0] ∧ pr_se_starterCount M (rk_ao as)
def qq_se_starterCount (as : List rk_V) (M : rk_M) (z : rk_Z) (M' : rk_M) : Prop := po_se_starterCount M (rk_ao as) z M'
set_option maxHeartbeats 4000000 in
set_option maxRecDepth 20000 in
theorem c_se_starterCount (l : Launch) : rk_Sp l rk_cs yn_se_starterCount (.code yn_se_starterCount prog_3_method_6_code 3 (some .int)) 0 pp_se_starterCount qq_se_starterCount 0 := by
  refine rk_mk (kc := kc_se_starterCount) (ft := ft_se) (ca := []) (th := []) (stops := [4]) (rt := 1) ck_se_starterCount ftc_se (fun _ h => absurd h List.not_mem_nil) (fun _ h => absurd h List.not_mem_nil) (Or.inr (Or.inl ⟨rfl, rfl⟩)) (by decide +kernel) (fun as M h => by rw [h.1]; exact ⟨Nat.le_of_ble_eq_true rfl, rk_nlok rfl⟩) ?_
  intro L as M G hp hrg hG
  obtain ⟨has, hP⟩ := hp
  generalize rk_ao as = o at has hP
  subst has
  obtain ⟨hj0, hj1⟩ := hP
  refine hG 9 _ _ _ _ _ rfl ?_
  refine rk_loop (P := fun i => G M 4 [rk_r 10 o 0, rk_i (rs_sta M o i), rk_i i] [] 0) (M 10 o 0 3).toNat ?_ 0 (Nat.zero_le _)
  intro i hi hnext
  have hb := rk_ct_b (fun k => M 11 o 0 k ≠ 0) (fun _ => inferInstance) i
  change 0 ≤ rs_sta M o i ∧ rs_sta M o i ≤ i at hb
  refine hG 40 _ _ _ _ _ rfl ?_
  refine And.intro ?_ ?_
  · intro h
    have hi' : i = (M 10 o 0 3).toNat := by omega
    subst hi'
    exact And.intro (And.intro rfl rfl) (Nat.le_refl _)
  · intro h
    repeat' (first | refine And.intro ?_ ?_ | intro _)
    all_goals (try omega)
    · rename_i hc
      refine rk_gto (hnext (by omega)) rfl ?_ rfl
      have e : rs_sta M o (i + 1) = rs_sta M o i := rk_ct_f (fun q => q hc)
      rw [e]; rfl
    · rename_i hc
      refine rk_gto (hnext (by omega)) rfl ?_ rfl
      have e : rs_sta M o (i + 1) = rs_sta M o i + 1 := rk_ct_t hc
      rw [e]; rfl
def pr_se_hasMarkedStarters (M : rk_M) (o j : Int) : Prop := 0 ≤ j ∧ j < 9 ∧ 0 ≤ M 10 o 0 3 ∧ M 10 o 0 3 ≤ 10
def po_se_hasMarkedStarters (M : rk_M) (o j : Int) (z : rk_Z) (M' : rk_M) : Prop := z = rk_one (if rs_bad M o j (M 10 o 0 3).toNat = 0 then 1 else 0) ∧ M' = M
def pp_se_hasMarkedStarters (as : List rk_V) (M : rk_M) : Prop := as = [rk_r 10 (rk_ao as) 0, rk_i (rk_ai as 1)] ∧ pr_se_hasMarkedStarters M (rk_ao as) (rk_ai as 1)
def qq_se_hasMarkedStarters (as : List rk_V) (M : rk_M) (z : rk_Z) (M' : rk_M) : Prop := po_se_hasMarkedStarters M (rk_ao as) (rk_ai as 1) z M'
set_option maxHeartbeats 4000000 in
set_option maxRecDepth 20000 in
theorem c_se_hasMarkedStarters (l : Launch) : rk_Sp l rk_cs yn_se_hasMarkedStarters (.code yn_se_hasMarkedStarters prog_3_method_8_code 3 (some .boolean)) 0 pp_se_hasMarkedStarters qq_se_hasMarkedStarters 0 := by
  refine rk_mk (kc := kc_se_hasMarkedStarters) (ft := ft_se) (ca := []) (th := []) (stops := [2]) (rt := 2) ck_se_hasMarkedStarters ftc_se (fun _ h => absurd h List.not_mem_nil) (fun _ h => absurd h List.not_mem_nil) (Or.inr (Or.inr (Or.inl ⟨rfl, rfl⟩))) (by decide +kernel) (fun as M h => by rw [h.1]; exact ⟨Nat.le_of_ble_eq_true rfl, rk_nlok rfl⟩) ?_
  intro L as M G hp hrg hG
  obtain ⟨has, hP⟩ := hp
  generalize rk_ao as = o at has hP
  generalize rk_ai as 1 = j at has hP
  subst has
  obtain ⟨h0, h1, hj0, hj1⟩ := hP
  refine hG 9 _ _ _ _ _ rfl ?_
  refine rk_loop (P := fun i => rs_bad M o j i = 0 → G M 2 [rk_r 10 o 0, rk_i j, rk_i i] [] 0) (M 10 o 0 3).toNat ?_ 0 (Nat.zero_le _) rfl
  intro i hi hnext hz
  refine hG 60 _ _ _ _ _ rfl ?_
  refine And.intro ?_ ?_
  · intro h
    have hi' : i = (M 10 o 0 3).toNat := by omega
    subst hi'
    refine And.intro (Or.inr rfl) (And.intro (And.intro ?_ rfl) (Nat.le_refl _))
    show rk_one 1 = rk_one (if rs_bad M o j (M 10 o 0 3).toNat = 0 then 1 else 0)
    rw [if_pos hz]
  · intro h
    repeat' (first | refine And.intro ?_ ?_ | intro _)
    all_goals (try omega)
    all_goals (first | rfl | exact Or.inl rfl | skip)
    · rename_i hc
      refine rk_gto (hnext (by omega) ?_) rfl rfl rfl
      have e : rs_bad M o j (i + 1) = rs_bad M o j i := rk_ct_f (fun q => q.1 hc)
      rw [e]; exact hz
    · rename_i hc hd
      refine rk_gto (hnext (by omega) ?_) rfl rfl rfl
      have e : rs_bad M o j (i + 1) = rs_bad M o j i := rk_ct_f (fun q => hd q.2)
      rw [e]; exact hz
    · rename_i hc hd
      show rk_one 0 = rk_one (if rs_bad M o j (M 10 o 0 3).toNat = 0 then 1 else 0)
      have e : rs_bad M o j (i + 1) = rs_bad M o j i + 1 := rk_ct_t ⟨hc, hd⟩
      have e2 : rs_bad M o j (i + 1) ≤ rs_bad M o j (M 10 o 0 3).toNat := rk_ct_mono _ (by omega)
      rw [if_neg (by omega)]
end
section
/-! Contracts of the class's Segment: completeness, worth, counts -/
def rs_inc (M : rk_M) (o : Int) (n : Nat) : Int := rk_ct (fun j => M 12 o 0 j = 0 ∧ rs_bad M o j (M 10 o 0 3).toNat ≠ 0) (fun _ => inferInstance) n
/-- COMPLETE -/
def rs_cpl (M : rk_M) (o : Int) : Prop := rs_inc M o (M 10 o 0 4).toNat = 0 ∧ 0 < rs_sta M o (M 10 o 0 3).toNat
def rs_cpl_dec (M : rk_M) (o : Int) : Decidable (rs_cpl M o) := by unfold rs_cpl; exact inferInstance
def rs_com (M : rk_M) (o : Int) : Int := @ite _ (rs_cpl M o) (rs_cpl_dec M o) 1 0
def pr_se_isComplete (M : rk_M) (o : Int) : Prop := 0 ≤ M 10 o 0 3 ∧ M 10 o 0 3 ≤ 10 ∧ 0 ≤ M 10 o 0 4 ∧ M 10 o 0 4 ≤ 9
def po_se_isComplete (M : rk_M) (o : Int) (z : rk_Z) (M' : rk_M) : Prop := z = rk_one (rs_com M o) ∧ M' = M
def pp_se_isComplete (as : List rk_V) (M : rk_M) : Prop := as = [rk_r 10 (rk_ao as) 0] ∧ pr_se_isComplete M (rk_ao as)
def qq_se_isComplete (as : List rk_V) (M : rk_M) (z : rk_Z) (M' : rk_M) : Prop := po_se_isComplete M (rk_ao as) z M'
set_option maxHeartbeats 4000000 in
set_option maxRecDepth 20000 in
theorem c_se_isComplete (l : Launch) : rk_Sp l rk_cs yn_se_isComplete (.code yn_se_isComplete prog_3_method_7_code 2 (some .boolean)) 1 pp_se_isComplete qq_se_isComplete 0 := by
  refine rk_mk (kc := kc_se_isComplete) (ft := ft_se) (ca := [(2 * 56, (2, pp_se_hasMarkedStarters, qq_se_hasMarkedStarters, 0)), (2 * 60, (1, pp_se_starterCount, qq_se_starterCount, 0))]) (th := []) (stops := [2]) (rt := 2) ck_se_isComplete ftc_se (List.forall_mem_cons.mpr ⟨rk_ckV (n := 1) (c_se_hasMarkedStarters l) ww_se_hasMarkedStarters lk_se_56 (by decide) (by decide) (by decide) (by decide +kernel) (fun as M h => ⟨_, _, _, _, h.1, rk_rcv_se⟩), List.forall_mem_cons.mpr ⟨rk_ckV (n := 0) (c_se_starterCount l) ww_se_starterCount lk_se_60 (by decide) (by decide) (by decide) (by decide +kernel) (fun as M h => ⟨_, _, _, _, h.1, rk_rcv_se⟩), fun _ h => absurd h List.not_mem_nil⟩⟩) (fun _ h => absurd h List.not_mem_nil) (Or.inr (Or.inr (Or.inl ⟨rfl, rfl⟩))) (by decide +kernel) (fun as M h => by rw [h.1]; exact ⟨Nat.le_of_ble_eq_true rfl, rk_nlok rfl⟩) ?_
  intro L as M G hp hrg hG
  obtain ⟨has, hP⟩ := hp
  generalize rk_ao as = o at has hP
  subst has
  obtain ⟨hs0, hs1, hj0, hj1⟩ := hP
  have hno : ¬ rs_cpl M o → rs_com M o = 0 := fun h => if_neg h
  refine hG 9 _ _ _ _ _ rfl ?_
  refine rk_loop (P := fun i => rs_inc M o i = 0 → G M 2 [rk_r 10 o 0, rk_i i] [] 0) (M 10 o 0 4).toNat ?_ 0 (Nat.zero_le _) rfl
  intro i hi hnext hz
  refine hG 60 _ _ _ _ _ rfl ?_
  refine And.intro ?_ ?_
  · intro h
    have hi' : i = (M 10 o 0 4).toNat := by omega
    refine And.intro (And.intro rfl (And.intro hs0 hs1)) (And.intro (Nat.le_refl _) ?_)
    intro z M' hq
    have hz' : z = rk_one (rs_sta M o (M 10 o 0 3).toNat) := hq.1
    have hM : M' = M := hq.2
    subst hz'; subst hM
    refine And.intro ?_ ?_
    · intro h2
      refine And.intro (Or.inl rfl) (And.intro (And.intro ?_ rfl) (Nat.le_refl _))
      show rk_one 0 = rk_one (rs_com M' o)
      rw [hno (fun q => by have := q.2; omega)]
    · intro h2
      refine And.intro (Or.inr rfl) (And.intro (And.intro ?_ rfl) (Nat.le_refl _))
      show rk_one 1 = rk_one (rs_com M' o)
      have : rs_com M' o = 1 := if_pos ⟨by rw [← hi']; exact hz, h2⟩
      rw [this]
  · intro h
    refine And.intro ?_ (And.intro ?_ ?_)
    · exact And.intro (by omega) (by show (i : Int) < 9; omega)
    · intro hc
      refine And.intro (by unfold rk_rg; omega) ?_
      refine rk_gto (hnext (by omega) ?_) rfl rfl rfl
      have e : rs_inc M o (i + 1) = rs_inc M o i := rk_ct_f (fun q => hc q.1)
      rw [e]; exact hz
    · intro hc
      refine And.intro (And.intro rfl (And.intro (by show (0 : Int) ≤ i; omega) (And.intro (by show (i : Int) < 9; omega) (And.intro hs0 hs1)))) (And.intro (Nat.le_refl _) ?_)
      intro z M' hq
      have hz' : z = rk_one (if rs_bad M o i (M 10 o 0 3).toNat = 0 then 1 else 0) := hq.1
      have hM : M' = M := hq.2
      subst hz'; subst hM
      by_cases hbd : rs_bad M' o i (M' 10 o 0 3).toNat = 0
      · rw [if_pos hbd]
        refine And.intro ?_ ?_
        · intro h2
          refine And.intro (by unfold rk_rg; omega) ?_
          refine rk_gto (hnext (by omega) ?_) rfl rfl rfl
          have e : rs_inc M' o (i + 1) = rs_inc M' o i := rk_ct_f (fun q => q.2 hbd)
          rw [e]; exact hz
        · intro h2; omega
      · rw [if_neg hbd]
        refine And.intro ?_ ?_
        · intro h2; omega
        · intro h2
          refine And.intro (Or.inl rfl) (And.intro (And.intro ?_ rfl) (Nat.le_refl _))
          show rk_one 0 = rk_one (rs_com M' o)
          have e : rs_inc M' o (i + 1) = rs_inc M' o i + 1 := rk_ct_t ⟨hc, hbd⟩
          have e2 : rs_inc M' o (i + 1) ≤ rs_inc M' o (M' 10 o 0 4).toNat := rk_ct_mono _ (by omega)
          rw [hno (fun q => by have := q.1; omega)]
def rs_nt (x : Int) : Int := if 0 < x then x else 0
theorem rs_nt_b {x : Int} : 0 ≤ rs_nt x ∧ (x ≤ 60 → rs_nt x ≤ 60) := by unfold rs_nt; split <;> omega
/-- one number for a mark -/
def rs_wo (M : rk_M) (o k f s : Int) : Int := (rs_nt (f - M 18 o 0 k) + rs_nt (s - M 18 o 1 k)) * 61 + (if M 10 o 0 0 = 0 then rs_nt (f - M 18 o 0 k) else rs_nt (s - M 18 o 1 k))
def pr_se_worth (M : rk_M) (o k f s : Int) : Prop := 0 ≤ k ∧ k < 10 ∧ -1 ≤ f ∧ f ≤ 60 ∧ -1 ≤ s ∧ s ≤ 60 ∧ 0 ≤ M 18 o 0 k ∧ M 18 o 0 k ≤ 60 ∧ 0 ≤ M 18 o 1 k ∧ M 18 o 1 k ≤ 60
def po_se_worth (M : rk_M) (o k f s : Int) (z : rk_Z) (M' : rk_M) : Prop := z = rk_one (rs_wo M o k f s) ∧ M' = M
def pp_se_worth (as : List rk_V) (M : rk_M) : Prop := as = [rk_r 10 (rk_ao as) 0, rk_i (rk_ai as 1), rk_i (rk_ai as 2), rk_i (rk_ai as 3)] ∧ pr_se_worth M (rk_ao as) (rk_ai as 1) (rk_ai as 2) (rk_ai as 3)
def qq_se_worth (as : List rk_V) (M : rk_M) (z : rk_Z) (M' : rk_M) : Prop := po_se_worth M (rk_ao as) (rk_ai as 1) (rk_ai as 2) (rk_ai as 3) z M'
set_option maxHeartbeats 4000000 in
set_option maxRecDepth 20000 in
theorem c_se_worth (l : Launch) : rk_Sp l rk_cs yn_se_worth (.code yn_se_worth prog_3_method_10_code 7 (some .int)) 1 pp_se_worth qq_se_worth 0 := by
  refine rk_mk (kc := kc_se_worth) (ft := ft_se) (ca := [(2 * 68 + 1, (2, pp_jd_max, qq_jd_max, 0))]) (th := []) (stops := []) (rt := 1) ck_se_worth ftc_se (List.forall_mem_cons.mpr ⟨rk_ckS (n := 2) (c_jd_max l) ww_jd_max lk_se_68 (by decide) (by decide) (by decide) (by decide +kernel), fun _ h => absurd h List.not_mem_nil⟩) (fun _ h => absurd h List.not_mem_nil) (Or.inr (Or.inl ⟨rfl, rfl⟩)) (by decide +kernel) (fun as M h => by rw [h.1]; exact ⟨Nat.le_of_ble_eq_true rfl, rk_nlok rfl⟩) ?_
  intro L as M G hp hrg hG
  obtain ⟨has, hP⟩ := hp
  generalize rk_ao as = o at has hP
  generalize rk_ai as 1 = k at has hP
  generalize rk_ai as 2 = f at has hP
  generalize rk_ai as 3 = s at has hP
  subst has
  obtain ⟨h0, h1, h2, h3, h4, h5, h6, h7, h8, h9⟩ := hP
  have b1 := @rs_nt_b (f - M 18 o 0 k)
  have b2 := @rs_nt_b (s - M 18 o 1 k)
  refine hG 60 _ _ _ _ _ rfl ?_
  refine And.intro (And.intro (by decide) (by decide)) (And.intro (And.intro h0 h1) (And.intro (And.intro (by omega) (by omega)) (And.intro (And.intro rfl trivial) (And.intro (Nat.le_refl _) ?_))))
  intro z M' hq
  have hz : z = rk_one (rs_nt (f - M 18 o 0 k)) := hq.1
  have hM : M' = M := hq.2
  subst hz; subst hM
  refine And.intro (And.intro (by decide) (by decide)) (And.intro (And.intro h0 h1) (And.intro (And.intro (by omega) (by omega)) (And.intro (And.intro rfl trivial) (And.intro (Nat.le_refl _) ?_))))
  intro z M'' hq
  have hz : z = rk_one (rs_nt (s - M' 18 o 1 k)) := hq.1
  have hM : M'' = M' := hq.2
  subst hz; subst hM
  refine And.intro ?_ ?_
  · intro hk
    refine And.intro (And.intro (by omega) (by omega)) (And.intro (And.intro (by omega) (by omega)) (And.intro (And.intro (by omega) (by omega)) (And.intro (And.intro ?_ rfl) (Nat.le_refl _))))
    show rk_one _ = rk_one (rs_wo M'' o k f s)
    unfold rs_wo
    rw [if_neg hk]
  · intro hk
    refine And.intro (And.intro (by omega) (by omega)) (And.intro (And.intro (by omega) (by omega)) (And.intro (And.intro (by omega) (by omega)) (And.intro (And.intro ?_ rfl) (Nat.le_refl _))))
    show rk_one _ = rk_one (rs_wo M'' o k f s)
    unfold rs_wo
    rw [if_pos hk]
/-- over the panel: how many ordinals are a limit's at most, their sum -/
def rs_cu (M : rk_M) (o lim k : Int) (n : Nat) : Int := rk_ct (fun j => M 12 o 0 j = 0 ∧ M 21 o j k ≤ lim) (fun _ => inferInstance) n
def rs_su (M : rk_M) (o lim k : Int) (n : Nat) : Int := rk_sm (fun j => if M 12 o 0 j = 0 ∧ M 21 o j k ≤ lim then M 21 o j k else 0) n
def pr_se_countUpTo (M : rk_M) (o lim k : Int) : Prop := 0 ≤ k ∧ k < 10 ∧ 0 ≤ M 10 o 0 4 ∧ M 10 o 0 4 ≤ 9
def po_se_countUpTo (M : rk_M) (o lim k : Int) (z : rk_Z) (M' : rk_M) : Prop := z = rk_one (rs_cu M o lim k (M 10 o 0 4).toNat) ∧ M' = M
def pp_se_countUpTo (as : List rk_V) (M : rk_M) : Prop := as = [rk_r 10 (rk_ao as) 0, rk_i (rk_ai as 1), rk_i (rk_ai as 2)] ∧ pr_se_countUpTo M (rk_ao as) (rk_ai as 1) (rk_ai as 2)
def qq_se_countUpTo (as : List rk_V) (M : rk_M) (z : rk_Z) (M' : rk_M) : Prop := po_se_countUpTo M (rk_ao as) (rk_ai as 1) (rk_ai as 2) z M'
set_option maxHeartbeats 4000000 in
set_option maxRecDepth 20000 in
theorem c_se_countUpTo (l : Launch) : rk_Sp l rk_cs yn_se_countUpTo (.code yn_se_countUpTo prog_3_method_15_code 5 (some .int)) 0 pp_se_countUpTo qq_se_countUpTo 0 := by
  refine rk_mk (kc := kc_se_countUpTo) (ft := ft_se) (ca := []) (th := []) (stops := [5]) (rt := 1) ck_se_countUpTo ftc_se (fun _ h => absurd h List.not_mem_nil) (fun _ h => absurd h List.not_mem_nil) (Or.inr (Or.inl ⟨rfl, rfl⟩)) (by decide +kernel) (fun as M h => by rw [h.1]; exact ⟨Nat.le_of_ble_eq_true rfl, rk_nlok rfl⟩) ?_
  intro L as M G hp hrg hG
  obtain ⟨has, hP⟩ := hp
  generalize rk_ao as = o at has hP
  generalize rk_ai as 1 = lim at has hP
  generalize rk_ai as 2 = k at has hP
  subst has
  obtain ⟨h0, h1, hj0, hj1⟩ := hP
  refine hG 9 _ _ _ _ _ rfl ?_
  refine rk_loop (P := fun i => G M 5 [rk_r 10 o 0, rk_i lim, rk_i k, rk_i (rs_cu M o lim k i), rk_i i] [] 0) (M 10 o 0 4).toNat ?_ 0 (Nat.zero_le _)
  intro i hi hnext
  have hb := rk_ct_b (fun j => M 12 o 0 j = 0 ∧ M 21 o j k ≤ lim) (fun _ => inferInstance) i
  change 0 ≤ rs_cu M o lim k i ∧ rs_cu M o lim k i ≤ i at hb
  refine hG 60 _ _ _ _ _ rfl ?_
  refine And.intro ?_ ?_
  · intro h
    have hi' : i = (M 10 o 0 4).toNat := by omega
    subst hi'
    exact And.intro (And.intro rfl rfl) (Nat.le_refl _)
  · intro h
    repeat' (first | refine And.intro ?_ ?_ | intro _)
    all_goals (try omega)
    · rename_i hc
      refine rk_gto (hnext (by omega)) rfl ?_ rfl
      have e : rs_cu M o lim k (i + 1) = rs_cu M o lim k i := rk_ct_f (fun q => hc q.1)
      rw [e]; rfl
    · rename_i hc hd
      refine rk_gto (hnext (by omega)) rfl ?_ rfl
      have e : rs_cu M o lim k (i + 1) = rs_cu M o lim k i := rk_ct_f (fun q => by have := q.2; omega)
      rw [e]; rfl
    · rename_i hc hd
      refine rk_gto (hnext (by omega)) rfl ?_ rfl
      have e : rs_cu M o lim k (i + 1) = rs_cu M o lim k i + 1 := rk_ct_t ⟨hc, hd⟩
      rw [e]; rfl
def pr_se_sumUpTo (M : rk_M) (o lim k : Int) : Prop := 0 ≤ k ∧ k < 10 ∧ 0 ≤ M 10 o 0 4 ∧ M 10 o 0 4 ≤ 9 ∧ ∀ j, 0 ≤ j → j < M 10 o 0 4 → M 12 o 0 j = 0 → 0 ≤ M 21 o j k ∧ M 21 o j k ≤ 100
def po_se_sumUpTo (M : rk_M) (o lim k : Int) (z : rk_Z) (M' : rk_M) : Prop := z = rk_one (rs_su M o lim k (M 10 o 0 4).toNat) ∧ M' = M
def pp_se_sumUpTo (as : List rk_V) (M : rk_M) : Prop := as = [rk_r 10 (rk_ao as) 0, rk_i (rk_ai as 1), rk_i (rk_ai as 2)] ∧ pr_se_sumUpTo M (rk_ao as) (rk_ai as 1) (rk_ai as 2)
def qq_se_sumUpTo (as : List rk_V) (M : rk_M) (z : rk_Z) (M' : rk_M) : Prop := po_se_sumUpTo M (rk_ao as) (rk_ai as 1) (rk_ai as 2) z M'
set_option maxHeartbeats 4000000 in
set_option maxRecDepth 20000 in
theorem c_se_sumUpTo (l : Launch) : rk_Sp l rk_cs yn_se_sumUpTo (.code yn_se_sumUpTo prog_3_method_16_code 5 (some .int)) 0 pp_se_sumUpTo qq_se_sumUpTo 0 := by
  refine rk_mk (kc := kc_se_sumUpTo) (ft := ft_se) (ca := []) (th := []) (stops := [5]) (rt := 1) ck_se_sumUpTo ftc_se (fun _ h => absurd h List.not_mem_nil) (fun _ h => absurd h List.not_mem_nil) (Or.inr (Or.inl ⟨rfl, rfl⟩)) (by decide +kernel) (fun as M h => by rw [h.1]; exact ⟨Nat.le_of_ble_eq_true rfl, rk_nlok rfl⟩) ?_
  intro L as M G hp hrg hG
  obtain ⟨has, hP⟩ := hp
  generalize rk_ao as = o at has hP
  generalize rk_ai as 1 = lim at has hP
  generalize rk_ai as 2 = k at has hP
  subst has
  obtain ⟨h0, h1, hj0, hj1, hor⟩ := hP
  have hbd : ∀ n : Nat, n ≤ (M 10 o 0 4).toNat → 0 ≤ rs_su M o lim k n ∧ rs_su M o lim k n ≤ 100 * n := by
    intro n
    induction n with
    | zero => intro _; exact ⟨Int.le_refl _, Int.le_refl _⟩
    | succ n ih =>
      intro hn
      have h2 := ih (by omega)
      show 0 ≤ rs_su M o lim k n + (if M 12 o 0 n = 0 ∧ M 21 o n k ≤ lim then M 21 o n k else 0) ∧ rs_su M o lim k n + (if M 12 o 0 n = 0 ∧ M 21 o n k ≤ lim then M 21 o n k else 0) ≤ _
      by_cases hc : M 12 o 0 n = 0 ∧ M 21 o n k ≤ lim
      · have h3 := hor n (by omega) (by omega) hc.1
        rw [if_pos hc]; omega
      · rw [if_neg hc]; omega
  refine hG 9 _ _ _ _ _ rfl ?_
  refine rk_loop (P := fun i => G M 5 [rk_r 10 o 0, rk_i lim, rk_i k, rk_i (rs_su M o lim k i), rk_i i] [] 0) (M 10 o 0 4).toNat ?_ 0 (Nat.zero_le _)
  intro i hi hnext
  have hb := hbd i hi
  refine hG 60 _ _ _ _ _ rfl ?_
  refine And.intro ?_ ?_
  · intro h
    have hi' : i = (M 10 o 0 4).toNat := by omega
    subst hi'
    exact And.intro (And.intro rfl rfl) (Nat.le_refl _)
  · intro h
    have e : rs_su M o lim k (i + 1) = rs_su M o lim k i + (if M 12 o 0 i = 0 ∧ M 21 o i k ≤ lim then M 21 o i k else 0) := rfl
    have hor' := hor i (by omega) (by omega)
    repeat' (first | refine And.intro ?_ ?_ | intro _)
    all_goals (try omega)
    · rename_i hc
      refine rk_gto (hnext (by omega)) rfl ?_ rfl
      rw [if_neg (fun q => hc q.1), Int.add_zero] at e
      rw [e]; rfl
    · rename_i hc hd
      refine rk_gto (hnext (by omega)) rfl ?_ rfl
      rw [if_neg (fun q => by have := q.2; omega), Int.add_zero] at e
      rw [e]; rfl
    · rename_i hc hd
      refine rk_gto (hnext (by omega)) rfl ?_ rfl
      rw [if_pos ⟨hc, hd⟩] at e
      rw [e]; rfl
end
section
/-! Contracts of the class's Segment: ordinals -/
/-- what was told of a segment is within its bounds -/
def rs_ok (M : rk_M) (o : Int) : Prop := 0 ≤ M 10 o 0 3 ∧ M 10 o 0 3 ≤ 10 ∧ 0 ≤ M 10 o 0 4 ∧ M 10 o 0 4 ≤ 9 ∧ (∀ j k, 0 ≤ j → j < 9 → 0 ≤ k → k < 10 → -1 ≤ M 14 o j k ∧ M 14 o j k ≤ 60 ∧ -1 ≤ M 16 o j k ∧ M 16 o j k ≤ 60) ∧ (∀ k, 0 ≤ k → k < 10 → 0 ≤ M 18 o 0 k ∧ M 18 o 0 k ≤ 60 ∧ 0 ≤ M 18 o 1 k ∧ M 18 o 1 k ≤ 60)
def rs_w (M : rk_M) (o j k : Int) : Int := rs_wo M o k (M 14 o j k) (M 16 o j k)
def rs_bt (M : rk_M) (o j k : Int) (n : Nat) : Int := rk_ct (fun p => M 11 o 0 p ≠ 0 ∧ rs_w M o j k < rs_w M o j p) (fun _ => inferInstance) n
/-- a judge's ordinal -/
def rs_od (M : rk_M) (o j k : Int) : Int := 1 + rs_bt M o j k (M 10 o 0 3).toNat
theorem rs_wo_congr {M M1 : rk_M} {o k f s : Int} (h0 : M1 18 o 0 k = M 18 o 0 k) (h1 : M1 18 o 1 k = M 18 o 1 k) (h2 : M1 10 o 0 0 = M 10 o 0 0) : rs_wo M1 o k f s = rs_wo M o k f s := by unfold rs_wo; rw [h0, h1, h2]
def rs_fo (M : rk_M) (o j : Int) (M' : rk_M) : Prop := (∀ t o' r i, ¬ (t = 19 ∧ o' = o ∧ r = 0) → ¬ (t = 21 ∧ o' = o ∧ r = j) → M' t o' r i = M t o' r i) ∧ ∀ k, 0 ≤ k → k < M 10 o 0 3 → M' 21 o j k = rs_od M o j k
def pr_se_fillOrdinals (M : rk_M) (o j : Int) : Prop := 0 ≤ j ∧ j < 9 ∧ rs_ok M o
def po_se_fillOrdinals (M : rk_M) (o j : Int) (z : rk_Z) (M' : rk_M) : Prop := z = .inl none ∧ rs_fo M o j M'
def pp_se_fillOrdinals (as : List rk_V) (M : rk_M) : Prop := as = [rk_r 10 (rk_ao as) 0, rk_i (rk_ai as 1)] ∧ pr_se_fillOrdinals M (rk_ao as) (rk_ai as 1)
def qq_se_fillOrdinals (as : List rk_V) (M : rk_M) (z : rk_Z) (M' : rk_M) : Prop := po_se_fillOrdinals M (rk_ao as) (rk_ai as 1) z M'
set_option maxHeartbeats 4000000 in
set_option maxRecDepth 20000 in
theorem c_se_fillOrdinals (l : Launch) : rk_Sp l rk_cs yn_se_fillOrdinals (.code yn_se_fillOrdinals prog_3_method_11_code 5 none) 2 pp_se_fillOrdinals qq_se_fillOrdinals 0 := by
  refine rk_mk (kc := kc_se_fillOrdinals) (ft := ft_se) (ca := [(2 * 77, (4, pp_se_worth, qq_se_worth, 0))]) (th := []) (stops := [2, 45, 58]) (rt := 0) ck_se_fillOrdinals ftc_se (List.forall_mem_cons.mpr ⟨rk_ckV (n := 3) (c_se_worth l) ww_se_worth lk_se_77 (by decide) (by decide) (by decide) (by decide +kernel) (fun as M h => ⟨_, _, _, _, h.1, rk_rcv_se⟩), fun _ h => absurd h List.not_mem_nil⟩) (fun _ h => absurd h List.not_mem_nil) (Or.inl ⟨rfl, rfl⟩) (by decide +kernel) (fun as M h => by rw [h.1]; exact ⟨Nat.le_of_ble_eq_true rfl, rk_nlok rfl⟩) ?_
  intro L as M G hp hrg hG
  obtain ⟨has, hP⟩ := hp
  generalize rk_ao as = o at has hP
  generalize rk_ai as 1 = j at has hP
  subst has
  obtain ⟨hj0, hj1, hok⟩ := hP
  obtain ⟨hs0, hs1, hq0, hq1, hmk, hdd⟩ := id hok
  have loop2 : ∀ i : Nat, i ≤ (M 10 o 0 3).toNat → ∀ (M2 : rk_M) (x3 x4 : rk_V), (∀ t o' r q, ¬ (t = 19 ∧ o' = o ∧ r = 0) → ¬ (t = 21 ∧ o' = o ∧ r = j) → M2 t o' r q = M t o' r q) → (∀ k, 0 ≤ k → k < M 10 o 0 3 → M2 19 o 0 k = rs_w M o j k) → (∀ k : Int, 0 ≤ k → k < i → M2 21 o j k = rs_od M o j k) →
      G M2 45 [rk_r 10 o 0, rk_i j, rk_i i, x3, x4] [] 0 := by
    refine rk_loop (M 10 o 0 3).toNat ?_
    intro i hi hnext M2 x3 x4 hA hw hd
    have e3 : M2 10 o 0 3 = M 10 o 0 3 := hA _ _ _ _ (by omega) (by omega)
    refine hG 30 _ _ _ _ _ rfl ?_
    refine And.intro ?_ ?_
    · intro h
      have hi' : i = (M 10 o 0 3).toNat := by omega
      refine And.intro rfl (And.intro (And.intro rfl ?_) (Nat.le_refl _))
      show rs_fo M o j M2
      exact ⟨hA, fun k h1 h2 => hd k h1 (by omega)⟩
    · intro h
      have hin := rk_loop (P := fun p => G M2 58 [rk_r 10 o 0, rk_i j, rk_i i, rk_i (rs_bt M o j i p), rk_i p] [] 0) (M 10 o 0 3).toNat ?_ 0 (Nat.zero_le _)
      · exact hin
      intro p hp hpn
      have hb := rk_ct_b (fun p => M 11 o 0 p ≠ 0 ∧ rs_w M o j i < rs_w M o j p) (fun _ => inferInstance) p
      change 0 ≤ rs_bt M o j i p ∧ rs_bt M o j i p ≤ p at hb
      have e11 : M2 11 o 0 p = M 11 o 0 p := hA _ _ _ _ (by omega) (by omega)
      refine hG 60 _ _ _ _ _ rfl ?_
      refine And.intro ?_ ?_
      · intro h2
        have hp' : p = (M 10 o 0 3).toNat := by omega
        refine And.intro (And.intro hj0 hj1) (And.intro (And.intro (by omega) (by omega)) (And.intro (And.intro (by omega) (by show (i : Int) < 10; omega)) (And.intro (And.intro (by omega) (by omega)) ?_)))
        refine rk_gto (hnext (by omega) (rk_up M2 21 o j i (1 + rs_bt M o j i p)) (rk_i (rs_bt M o j i p)) (rk_i p) ?_ ?_ ?_) rfl rfl rfl
        · intro t o' r q h3 h4
          rw [rk_up_off (fun z => h4 ⟨z.1, z.2.1, z.2.2⟩)]
          exact hA t o' r q h3 h4
        · intro k h3 h4
          rw [rk_up_off (by omega)]
          exact hw k h3 h4
        · intro k h3 h4
          by_cases hk : k = i
          · subst hk
            rw [rk_up_self, hp']; rfl
          · rw [rk_up_ne (by omega)]
            exact hd k h3 (by omega)
      · intro h2
        have hwp := hw p (by omega) (by omega)
        have hwi := hw i (by omega) (by omega)
        repeat' (first | refine And.intro ?_ ?_ | intro _)
        all_goals (try omega)
        · rename_i hc
          refine rk_gto (hpn (by omega)) rfl ?_ rfl
          have e : rs_bt M o j i (p + 1) = rs_bt M o j i p := rk_ct_f (fun q => q.1 (by rw [← e11]; exact hc))
          rw [e]; rfl
        · rename_i hc hle
          refine rk_gto (hpn (by omega)) rfl ?_ rfl
          have e : rs_bt M o j i (p + 1) = rs_bt M o j i p := rk_ct_f (fun q => by have := q.2; omega)
          rw [e]; rfl
        · rename_i hc hle
          refine rk_gto (hpn (by omega)) rfl ?_ rfl
          have e : rs_bt M o j i (p + 1) = rs_bt M o j i p + 1 := rk_ct_t ⟨by rw [← e11]; exact hc, by omega⟩
          rw [e]; rfl
  refine hG 9 _ _ _ _ _ rfl ?_
  have loop1 : ∀ i : Nat, i ≤ (M 10 o 0 3).toNat → ∀ M1 : rk_M, (∀ t o' r q, ¬ (t = 19 ∧ o' = o ∧ r = 0) → M1 t o' r q = M t o' r q) → (∀ k : Int, 0 ≤ k → k < i → M1 19 o 0 k = rs_w M o j k) → G M1 2 [rk_r 10 o 0, rk_i j, rk_i i, rk_u, rk_u] [] 0 := by
    refine rk_loop (M 10 o 0 3).toNat ?_
    intro i hi hnext M1 hA hw
    have e3 : M1 10 o 0 3 = M 10 o 0 3 := hA _ _ _ _ (by omega)
    refine hG 60 _ _ _ _ _ rfl ?_
    refine And.intro ?_ ?_
    · intro h
      exact loop2 0 (Nat.zero_le _) M1 rk_u rk_u (fun t o' r q h1 _ => hA t o' r q h1) (fun k h1 h2 => hw k h1 (by omega)) (fun k h1 h2 => by omega)
    · intro h
      have hi0 : (0 : Int) ≤ i := by omega
      have hi1 : (i : Int) < 10 := by omega
      have e14 : M1 14 o j i = M 14 o j i := hA _ _ _ _ (by omega)
      have e16 : M1 16 o j i = M 16 o j i := hA _ _ _ _ (by omega)
      have d0 : M1 18 o 0 i = M 18 o 0 i := hA _ _ _ _ (by omega)
      have d1 : M1 18 o 1 i = M 18 o 1 i := hA _ _ _ _ (by omega)
      have k0 : M1 10 o 0 0 = M 10 o 0 0 := hA _ _ _ _ (by omega)
      obtain ⟨m0, m1, m2, m3⟩ := hmk j i hj0 hj1 hi0 hi1
      obtain ⟨q0, q1, q2, q3⟩ := hdd i hi0 hi1
      have hpre : pr_se_worth M1 o i (M1 14 o j i) (M1 16 o j i) := by
        rw [e14, e16]
        exact ⟨hi0, hi1, m0, m1, m2, m3, by rw [d0]; exact q0, by rw [d0]; exact q1, by rw [d1]; exact q2, by rw [d1]; exact q3⟩
      refine And.intro (And.intro hj0 hj1) (And.intro (And.intro hi0 hi1) (And.intro (And.intro hj0 hj1) (And.intro (And.intro hi0 hi1) (And.intro (And.intro rfl hpre) (And.intro (Nat.le_refl _) ?_)))))
      intro z M' hq
      have hz : z = rk_one (rs_wo M1 o i (M1 14 o j i) (M1 16 o j i)) := hq.1
      have hM : M' = M1 := hq.2
      subst hz; subst hM
      refine And.intro (And.intro hi0 hi1) (And.intro (by unfold rk_rg; omega) ?_)
      refine rk_gto (hnext (by omega) (rk_up M' 19 o 0 i (rs_wo M' o i (M' 14 o j i) (M' 16 o j i))) ?_ ?_) rfl rfl rfl
      · intro t o' r q h1
        rw [rk_up_off h1]; exact hA t o' r q h1
      · intro k h1 h2
        by_cases hk : k = i
        · subst hk
          rw [rk_up_self, e14, e16, rs_wo_congr d0 d1 k0]; rfl
        · rw [rk_up_ne (by omega)]; exact hw k h1 (by omega)
  exact loop1 0 (Nat.zero_le _) M (fun t o' r q _ => rfl) (fun k h1 h2 => by omega)
end
section
/-! Contracts of the class's Segment: majorities and places -/
theorem rk_ct_congr {f g : Int → Prop} {hf : ∀ j, Decidable (f j)} {hg : ∀ j, Decidable (g j)} : ∀ n : Nat, (∀ j : Nat, j < n → (f j ↔ g j)) → rk_ct f hf n = rk_ct g hg n
  | 0, _ => rfl
  | n + 1, h => by
    have h1 := rk_ct_congr (hf := hf) (hg := hg) n (fun j hj => h j (Nat.lt_succ_of_lt hj))
    have h2 := h n (Nat.lt_succ_self n)
    by_cases hc : g n
    · rw [rk_ct_t (h2.mpr hc), rk_ct_t hc, h1]
    · rw [rk_ct_f (fun q => hc (h2.mp q)), rk_ct_f hc, h1]
theorem rk_sm_congr {f g : Int → Int} : ∀ n : Nat, (∀ j : Nat, j < n → f j = g j) → rk_sm f n = rk_sm g n
  | 0, _ => rfl
  | n + 1, h => by
    show rk_sm f n + f n = rk_sm g n + g n
    rw [rk_sm_congr n (fun j hj => h j (Nat.lt_succ_of_lt hj)), h n (Nat.lt_succ_self n)]
theorem rs_cu_congr {M M1 : rk_M} {o k lim : Int} (h12 : ∀ j, M1 12 o 0 j = M 12 o 0 j) (h21 : ∀ j, M1 21 o j k = M 21 o j k) (n : Nat) : rs_cu M1 o lim k n = rs_cu M o lim k n :=
  rk_ct_congr n (fun j _ => by rw [h12, h21])
theorem rs_su_congr {M M1 : rk_M} {o k lim : Int} (h12 : ∀ j, M1 12 o 0 j = M 12 o 0 j) (h21 : ∀ j, M1 21 o j k = M 21 o j k) (n : Nat) : rs_su M1 o lim k n = rs_su M o lim k n :=
  rk_sm_congr n (fun j _ => by rw [h12, h21])
/-- the least number from m on of which more than half are so many at most; f steps at most -/
def rk_mjf (c : Int → Int) (p : Int) : Nat → Int → Int
  | 0, m => m
  | f + 1, m => if 2 * c m ≤ p then rk_mjf c p f (m + 1) else m
def rs_mj (M : rk_M) (o k p : Int) : Int := rk_mjf (fun m => rs_cu M o m k (M 10 o 0 4).toNat) p (M 10 o 0 3 - 1).toNat 1
def rs_fm (M : rk_M) (o k p : Int) : rk_M := rk_up (rk_up (rk_up (rk_up M 23 o 0 k (rs_mj M o k p)) 23 o 1 k (rs_cu M o (rs_mj M o k p) k (M 10 o 0 4).toNat)) 23 o 2 k (rs_su M o (rs_mj M o k p) k (M 10 o 0 4).toNat)) 23 o 3 k (rs_su M o (M 10 o 0 3) k (M 10 o 0 4).toNat)
def pr_se_fillMajority (M : rk_M) (o k p : Int) : Prop := 0 ≤ k ∧ k < 10 ∧ 0 ≤ M 10 o 0 3 ∧ M 10 o 0 3 ≤ 10 ∧ 0 ≤ M 10 o 0 4 ∧ M 10 o 0 4 ≤ 9 ∧ ∀ j, 0 ≤ j → j < M 10 o 0 4 → M 12 o 0 j = 0 → 0 ≤ M 21 o j k ∧ M 21 o j k ≤ 100
def po_se_fillMajority (M : rk_M) (o k p : Int) (z : rk_Z) (M' : rk_M) : Prop := z = .inl none ∧ M' = rs_fm M o k p
def pp_se_fillMajority (as : List rk_V) (M : rk_M) : Prop := as = [rk_r 10 (rk_ao as) 0, rk_i (rk_ai as 1), rk_i (rk_ai as 2)] ∧ pr_se_fillMajority M (rk_ao as) (rk_ai as 1) (rk_ai as 2)
def qq_se_fillMajority (as : List rk_V) (M : rk_M) (z : rk_Z) (M' : rk_M) : Prop := po_se_fillMajority M (rk_ao as) (rk_ai as 1) (rk_ai as 2) z M'
set_option maxHeartbeats 1000000 in
set_option maxRecDepth 20000 in
theorem c_se_fillMajority (l : Launch) : rk_Sp l rk_cs yn_se_fillMajority (.code yn_se_fillMajority prog_3_method_14_code 4 none) 1 pp_se_fillMajority qq_se_fillMajority 0 := by
  refine rk_mk (kc := kc_se_fillMajority) (ft := ft_se) (ca := [(2 * 98, (3, pp_se_countUpTo, qq_se_countUpTo, 0)), (2 * 101, (3, pp_se_sumUpTo, qq_se_sumUpTo, 0))]) (th := []) (stops := [2, 28]) (rt := 0) ck_se_fillMajority ftc_se (List.forall_mem_cons.mpr ⟨rk_ckV (n := 2) (c_se_countUpTo l) ww_se_countUpTo lk_se_98 (by decide) (by decide) (by decide) (by decide +kernel) (fun as M h => ⟨_, _, _, _, h.1, rk_rcv_se⟩), List.forall_mem_cons.mpr ⟨rk_ckV (n := 2) (c_se_sumUpTo l) ww_se_sumUpTo lk_se_101 (by decide) (by decide) (by decide) (by decide +kernel) (fun as M h => ⟨_, _, _, _, h.1, rk_rcv_se⟩), fun _ h => absurd h List.not_mem_nil⟩⟩) (fun _ h => absurd h List.not_mem_nil) (Or.inl ⟨rfl, rfl⟩) (by decide +kernel) (fun as M h => by rw [h.1]; exact ⟨Nat.le_of_ble_eq_true rfl, rk_nlok rfl⟩) ?_
  intro L as M G hp hrg hG
  obtain ⟨has, hP⟩ := hp
  generalize rk_ao as = o at has hP
  generalize rk_ai as 1 = k at has hP
  generalize rk_ai as 2 = p at has hP
  subst has
  obtain ⟨h0, h1, hs0, hs1, hj0, hj1, hor⟩ := hP
  have hcb : ∀ m, 0 ≤ rs_cu M o m k (M 10 o 0 4).toNat ∧ rs_cu M o m k (M 10 o 0 4).toNat ≤ 9 := fun m => by
    have h2 := rk_ct_b (fun j => M 12 o 0 j = 0 ∧ M 21 o j k ≤ m) (fun _ => inferInstance) (M 10 o 0 4).toNat
    change 0 ≤ rs_cu M o m k (M 10 o 0 4).toNat ∧ rs_cu M o m k (M 10 o 0 4).toNat ≤ ((M 10 o 0 4).toNat : Int) at h2
    omega
  -- behind the loop
  have hend : ∀ R : Int, rs_mj M o k p = R → G M 28 [rk_r 10 o 0, rk_i k, rk_i p, rk_i R] [] 0 := by
    intro R hR
    refine hG 60 _ _ _ _ _ rfl ?_
    refine And.intro (And.intro (by decide) (by decide)) (And.intro (And.intro h0 h1) ?_)
    have a12 : ∀ j, rk_up M 23 o 0 k R 12 o 0 j = M 12 o 0 j := fun j => rk_up_off (by omega)
    have a21 : ∀ j, rk_up M 23 o 0 k R 21 o j k = M 21 o j k := fun j => rk_up_off (by omega)
    have a4 : rk_up M 23 o 0 k R 10 o 0 4 = M 10 o 0 4 := rk_up_off (by omega)
    refine And.intro (And.intro (by decide) (by decide)) (And.intro (And.intro rfl (show pr_se_countUpTo (rk_up M 23 o 0 k R) o R k from ⟨h0, h1, by rw [a4]; exact hj0, by rw [a4]; exact hj1⟩)) (And.intro (Nat.le_refl _) ?_))
    intro z M1 hq
    have hz : z = rk_one (rs_cu M o R k (M 10 o 0 4).toNat) := by
      have h2 : z = rk_one (rs_cu (rk_up M 23 o 0 k R) o R k (rk_up M 23 o 0 k R 10 o 0 4).toNat) := hq.1
      rw [a4, rs_cu_congr a12 a21] at h2; exact h2
    have hM : M1 = rk_up M 23 o 0 k R := hq.2
    subst hz; subst hM
    refine And.intro (And.intro h0 h1) ?_
    generalize hM2 : rk_up (rk_up M 23 o 0 k R) 23 o 1 k (rs_cu M o R k (M 10 o 0 4).toNat) = M2
    have b12 : ∀ j, M2 12 o 0 j = M 12 o 0 j := fun j => by rw [← hM2, rk_up_off (by omega)]; exact a12 j
    have b21 : ∀ j, M2 21 o j k = M 21 o j k := fun j => by rw [← hM2, rk_up_off (by omega)]; exact a21 j
    have b4 : M2 10 o 0 4 = M 10 o 0 4 := by rw [← hM2, rk_up_off (by omega)]; exact a4
    refine And.intro (And.intro (by decide) (by decide)) (And.intro (And.intro rfl (show pr_se_sumUpTo M2 o R k from ⟨h0, h1, by rw [b4]; exact hj0, by rw [b4]; exact hj1, fun j q1 q2 q3 => by rw [b21]; exact hor j q1 (by rw [← b4]; exact q2) (by rw [← b12]; exact q3)⟩)) (And.intro (Nat.le_refl _) ?_))
    intro z M3 hq
    have hz : z = rk_one (rs_su M o R k (M 10 o 0 4).toNat) := by
      have h2 : z = rk_one (rs_su M2 o R k (M2 10 o 0 4).toNat) := hq.1
      rw [b4, rs_su_congr b12 b21] at h2; exact h2
    have hM : M3 = M2 := hq.2
    subst hz; subst hM
    refine And.intro (And.intro h0 h1) ?_
    generalize hM4 : rk_up M3 23 o 2 k (rs_su M o R k (M 10 o 0 4).toNat) = M4
    have c12 : ∀ j, M4 12 o 0 j = M 12 o 0 j := fun j => by rw [← hM4, rk_up_off (by omega)]; exact b12 j
    have c21 : ∀ j, M4 21 o j k = M 21 o j k := fun j => by rw [← hM4, rk_up_off (by omega)]; exact b21 j
    have c4 : M4 10 o 0 4 = M 10 o 0 4 := by rw [← hM4, rk_up_off (by omega)]; exact b4
    have c3 : M4 10 o 0 3 = M 10 o 0 3 := by rw [← hM4, rk_up_off (by omega), ← hM2, rk_up_off (by omega), rk_up_off (by omega)]
    refine And.intro (And.intro (by decide) (by decide)) (And.intro (And.intro rfl (show pr_se_sumUpTo M4 o (M4 10 o 0 3) k from ⟨h0, h1, by rw [c4]; exact hj0, by rw [c4]; exact hj1, fun j q1 q2 q3 => by rw [c21]; exact hor j q1 (by rw [← c4]; exact q2) (by rw [← c12]; exact q3)⟩)) (And.intro (Nat.le_refl _) ?_))
    intro z M5 hq
    have hz : z = rk_one (rs_su M o (M 10 o 0 3) k (M 10 o 0 4).toNat) := by
      have h2 : z = rk_one (rs_su M4 o (M4 10 o 0 3) k (M4 10 o 0 4).toNat) := hq.1
      rw [c4, c3, rs_su_congr c12 c21] at h2; exact h2
    have hM : M5 = M4 := hq.2
    subst hz; subst hM
    refine And.intro (And.intro h0 h1) (And.intro rfl (And.intro (And.intro rfl ?_) (Nat.le_refl _)))
    show rk_up M5 23 o 3 k _ = rs_fm M o k p
    rw [← hM4, ← hM2]
    unfold rs_fm
    rw [hR]
  refine hG 9 _ _ _ _ _ rfl ?_
  refine rk_loop (P := fun i => rs_mj M o k p = rk_mjf (fun m => rs_cu M o m k (M 10 o 0 4).toNat) p ((M 10 o 0 3 - 1).toNat - i) (1 + i) → G M 2 [rk_r 10 o 0, rk_i k, rk_i p, rk_i (1 + i)] [] 0) (M 10 o 0 3 - 1).toNat ?_ 0 (Nat.zero_le _) rfl
  intro i hi hnext hR
  refine hG 60 _ _ _ _ _ rfl ?_
  refine And.intro ?_ ?_
  · intro h
    have hi' : (M 10 o 0 3 - 1).toNat - i = 0 := by omega
    rw [hi'] at hR
    exact hend (1 + i) hR
  · intro h
    have hi' : (M 10 o 0 3 - 1).toNat - i = ((M 10 o 0 3 - 1).toNat - (i + 1)) + 1 := by omega
    rw [hi'] at hR
    have hR' : rs_mj M o k p = if 2 * rs_cu M o (1 + i) k (M 10 o 0 4).toNat ≤ p then rk_mjf (fun m => rs_cu M o m k (M 10 o 0 4).toNat) p ((M 10 o 0 3 - 1).toNat - (i + 1)) (1 + i + 1) else 1 + i := hR
    refine And.intro (And.intro rfl (show pr_se_countUpTo M o (1 + i) k from ⟨h0, h1, hj0, hj1⟩)) (And.intro (Nat.le_refl _) ?_)
    intro z M1 hq
    have hz : z = rk_one (rs_cu M o (1 + i) k (M 10 o 0 4).toNat) := hq.1
    have hM : M1 = M := hq.2
    subst hz; subst hM
    have hc := hcb (1 + i)
    refine And.intro (And.intro (by omega) (by omega)) (And.intro ?_ ?_)
    · intro h2
      rw [if_neg (by omega)] at hR'
      exact hend (1 + i) hR'
    · intro h2
      rw [if_pos h2] at hR'
      refine And.intro (And.intro (by omega) (by omega)) ?_
      refine rk_gto (hnext (by omega) ?_) rfl ?_ rfl
      · rw [hR']; congr 1
      · have e : (1 : Int) + ((i + 1 : Nat) : Int) = 1 + i + 1 := by omega
        rw [e]; rfl
/-- the first of four figures in which two skaters differ -/
def rs_pt (M : rk_M) (o a b : Int) : Int := if M 23 o 0 a ≠ M 23 o 0 b then 1 else if M 23 o 1 a ≠ M 23 o 1 b then 2 else if M 23 o 2 a ≠ M 23 o 2 b then 3 else if M 23 o 3 a ≠ M 23 o 3 b then 4 else 0
def pr_se_partingStep (M : rk_M) (o a b : Int) : Prop := 0 ≤ a ∧ a < 10 ∧ 0 ≤ b ∧ b < 10
def po_se_partingStep (M : rk_M) (o a b : Int) (z : rk_Z) (M' : rk_M) : Prop := z = rk_one (rs_pt M o a b) ∧ M' = M
def pp_se_partingStep (as : List rk_V) (M : rk_M) : Prop := as = [rk_r 10 (rk_ao as) 0, rk_i (rk_ai as 1), rk_i (rk_ai as 2)] ∧ pr_se_partingStep M (rk_ao as) (rk_ai as 1) (rk_ai as 2)
def qq_se_partingStep (as : List rk_V) (M : rk_M) (z : rk_Z) (M' : rk_M) : Prop := po_se_partingStep M (rk_ao as) (rk_ai as 1) (rk_ai as 2) z M'
set_option maxHeartbeats 1000000 in
set_option maxRecDepth 20000 in
theorem c_se_partingStep (l : Launch) : rk_Sp l rk_cs yn_se_partingStep (.code yn_se_partingStep prog_3_method_18_code 4 (some .int)) 0 pp_se_partingStep qq_se_partingStep 0 := by
  refine rk_mk (kc := kc_se_partingStep) (ft := ft_se) (ca := []) (th := []) (stops := []) (rt := 1) ck_se_partingStep ftc_se (fun _ h => absurd h List.not_mem_nil) (fun _ h => absurd h List.not_mem_nil) (Or.inr (Or.inl ⟨rfl, rfl⟩)) (by decide +kernel) (fun as M h => by rw [h.1]; exact ⟨Nat.le_of_ble_eq_true rfl, rk_nlok rfl⟩) ?_
  intro L as M G hp hrg hG
  obtain ⟨has, hP⟩ := hp
  generalize rk_ao as = o at has hP
  generalize rk_ai as 1 = a at has hP
  generalize rk_ai as 2 = b at has hP
  subst has
  obtain ⟨h0, h1, h2, h3⟩ := hP
  refine hG 150 _ _ _ _ _ rfl ?_
  repeat' (first | refine And.intro ?_ ?_ | intro _)
  all_goals (try omega)
  all_goals (first | rfl | skip)
  all_goals (show rk_one _ = rk_one (rs_pt M o a b); simp at *; simp [rs_pt, *])
def rs_bf (M : rk_M) (o st a b : Int) : Int := if st = 2 then (if M 23 o 1 b < M 23 o 1 a then 1 else 0) else (if M 23 o (st - 1) a < M 23 o (st - 1) b then 1 else 0)
def pr_se_isBeforeAt (M : rk_M) (o st a b : Int) : Prop := 1 ≤ st ∧ st ≤ 4 ∧ 0 ≤ a ∧ a < 10 ∧ 0 ≤ b ∧ b < 10
def po_se_isBeforeAt (M : rk_M) (o st a b : Int) (z : rk_Z) (M' : rk_M) : Prop := z = rk_one (rs_bf M o st a b) ∧ M' = M
def pp_se_isBeforeAt (as : List rk_V) (M : rk_M) : Prop := as = [rk_r 10 (rk_ao as) 0, rk_i (rk_ai as 1), rk_i (rk_ai as 2), rk_i (rk_ai as 3)] ∧ pr_se_isBeforeAt M (rk_ao as) (rk_ai as 1) (rk_ai as 2) (rk_ai as 3)
def qq_se_isBeforeAt (as : List rk_V) (M : rk_M) (z : rk_Z) (M' : rk_M) : Prop := po_se_isBeforeAt M (rk_ao as) (rk_ai as 1) (rk_ai as 2) (rk_ai as 3) z M'
set_option maxHeartbeats 1000000 in
set_option maxRecDepth 20000 in
theorem c_se_isBeforeAt (l : Launch) : rk_Sp l rk_cs yn_se_isBeforeAt (.code yn_se_isBeforeAt prog_3_method_19_code 5 (some .boolean)) 0 pp_se_isBeforeAt qq_se_isBeforeAt 0 := by
  refine rk_mk (kc := kc_se_isBeforeAt) (ft := ft_se) (ca := []) (th := []) (stops := []) (rt := 2) ck_se_isBeforeAt ftc_se (fun _ h => absurd h List.not_mem_nil) (fun _ h => absurd h List.not_mem_nil) (Or.inr (Or.inr (Or.inl ⟨rfl, rfl⟩))) (by decide +kernel) (fun as M h => by rw [h.1]; exact ⟨Nat.le_of_ble_eq_true rfl, rk_nlok rfl⟩) ?_
  intro L as M G hp hrg hG
  obtain ⟨has, hP⟩ := hp
  generalize rk_ao as = o at has hP
  generalize rk_ai as 1 = st at has hP
  generalize rk_ai as 2 = a at has hP
  generalize rk_ai as 3 = b at has hP
  subst has
  obtain ⟨g0, g1, h0, h1, h2, h3⟩ := hP
  refine hG 80 _ _ _ _ _ rfl ?_
  repeat' (first | refine And.intro ?_ ?_ | intro _)
  all_goals (try omega)
  all_goals (first | rfl | exact Or.inl rfl | exact Or.inr rfl | skip)
  all_goals (show rk_one _ = rk_one (rs_bf M o st a b); unfold rs_bf)
  all_goals (first | (rename_i e f; have e2 : st = 2 := by omega
                      subst e2
                      first | (rw [if_pos rfl, if_pos (by simpa using f)]; done) | (rw [if_pos rfl, if_neg (by simpa using f)]; done)) | (rename_i e f; rw [if_neg (by omega)]; first | (rw [if_pos f]; done) | (rw [if_neg (by omega)]; done)))
end
section
/-! Contracts of the class's Segment: places -/
/-- what a skater adds to another's place -/
def rs_cn (M : rk_M) (o k p : Int) : Int := if M 11 o 0 p ≠ 0 ∧ p ≠ k then (if rs_pt M o p k = 0 then 1 else if rs_bf M o (rs_pt M o p k) p k ≠ 0 then 2 else 0) else 0
def rs_ps (M : rk_M) (o k : Int) (n : Nat) : Int := rk_sm (fun p => rs_cn M o k p) n
theorem rs_cn_b (M : rk_M) (o k p : Int) : 0 ≤ rs_cn M o k p ∧ rs_cn M o k p ≤ 2 := by
  unfold rs_cn
  split
  · split
    · omega
    · split <;> omega
  · omega
theorem rs_ps_b (M : rk_M) (o k : Int) : ∀ n : Nat, 0 ≤ rs_ps M o k n ∧ rs_ps M o k n ≤ 2 * n
  | 0 => ⟨Int.le_refl _, Int.le_refl _⟩
  | n + 1 => by
    have h1 := rs_ps_b M o k n
    have h2 := rs_cn_b M o k n
    show 0 ≤ rs_ps M o k n + rs_cn M o k n ∧ rs_ps M o k n + rs_cn M o k n ≤ _
    omega
theorem rs_pt_b (M : rk_M) (o a b : Int) : 0 ≤ rs_pt M o a b ∧ rs_pt M o a b ≤ 4 := by
  unfold rs_pt
  split
  · omega
  · split
    · omega
    · split
      · omega
      · split <;> omega
theorem rs_bf_b (M : rk_M) (o s a b : Int) : rs_bf M o s a b = 0 ∨ rs_bf M o s a b = 1 := by
  unfold rs_bf
  split <;> split <;> omega
def pr_se_fillPlace (M : rk_M) (o k : Int) : Prop := 0 ≤ k ∧ k < 10 ∧ 0 ≤ M 10 o 0 3 ∧ M 10 o 0 3 ≤ 10
def po_se_fillPlace (M : rk_M) (o k : Int) (z : rk_Z) (M' : rk_M) : Prop := z = .inl none ∧ M' = rk_up M 23 o 4 k (2 + rs_ps M o k (M 10 o 0 3).toNat)
def pp_se_fillPlace (as : List rk_V) (M : rk_M) : Prop := as = [rk_r 10 (rk_ao as) 0, rk_i (rk_ai as 1)] ∧ pr_se_fillPlace M (rk_ao as) (rk_ai as 1)
def qq_se_fillPlace (as : List rk_V) (M : rk_M) (z : rk_Z) (M' : rk_M) : Prop := po_se_fillPlace M (rk_ao as) (rk_ai as 1) z M'
set_option maxHeartbeats 1000000 in
set_option maxRecDepth 20000 in
theorem c_se_fillPlace (l : Launch) : rk_Sp l rk_cs yn_se_fillPlace (.code yn_se_fillPlace prog_3_method_17_code 5 none) 1 pp_se_fillPlace qq_se_fillPlace 0 := by
  refine rk_mk (kc := kc_se_fillPlace) (ft := ft_se) (ca := [(2 * 104, (3, pp_se_partingStep, qq_se_partingStep, 0)), (2 * 107, (4, pp_se_isBeforeAt, qq_se_isBeforeAt, 0))]) (th := []) (stops := [4, 59]) (rt := 0) ck_se_fillPlace ftc_se (List.forall_mem_cons.mpr ⟨rk_ckV (n := 2) (c_se_partingStep l) ww_se_partingStep lk_se_104 (by decide) (by decide) (by decide) (by decide +kernel) (fun as M h => ⟨_, _, _, _, h.1, rk_rcv_se⟩), List.forall_mem_cons.mpr ⟨rk_ckV (n := 3) (c_se_isBeforeAt l) ww_se_isBeforeAt lk_se_107 (by decide) (by decide) (by decide) (by decide +kernel) (fun as M h => ⟨_, _, _, _, h.1, rk_rcv_se⟩), fun _ h => absurd h List.not_mem_nil⟩⟩) (fun _ h => absurd h List.not_mem_nil) (Or.inl ⟨rfl, rfl⟩) (by decide +kernel) (fun as M h => by rw [h.1]; exact ⟨Nat.le_of_ble_eq_true rfl, rk_nlok rfl⟩) ?_
  intro L as M G hp hrg hG
  obtain ⟨has, hP⟩ := hp
  generalize rk_ao as = o at has hP
  generalize rk_ai as 1 = k at has hP
  subst has
  obtain ⟨h0, h1, hs0, hs1⟩ := hP
  refine hG 9 _ _ _ _ _ rfl ?_
  have key : ∀ i : Nat, i ≤ (M 10 o 0 3).toNat → ∀ x4 : rk_V, G M 4 [rk_r 10 o 0, rk_i k, rk_i (2 + rs_ps M o k i), rk_i i, x4] [] 0 := by
    refine rk_loop (M 10 o 0 3).toNat ?_
    intro i hi hnext x4
    have hb := rs_ps_b M o k i
    have hc := rs_cn_b M o k i
    have e : rs_ps M o k (i + 1) = rs_ps M o k i + rs_cn M o k i := rfl
    refine hG 40 _ _ _ _ _ rfl ?_
    refine And.intro ?_ ?_
    · intro h
      have hi' : i = (M 10 o 0 3).toNat := by omega
      refine And.intro (And.intro (by decide) (by decide)) (And.intro (And.intro h0 h1) (And.intro rfl (And.intro (And.intro rfl ?_) (Nat.le_refl _))))
      show rk_up M 23 o 4 k (2 + rs_ps M o k i) = rk_up M 23 o 4 k (2 + rs_ps M o k (M 10 o 0 3).toNat)
      rw [hi']
    · intro h
      have hi0 : (0 : Int) ≤ i := by omega
      have hi1 : (i : Int) < 10 := by omega
      -- the end of a turn
      have hstep : ∀ (v : Int) (x4 : rk_V), v = 2 + rs_ps M o k (i + 1) → G M 59 [rk_r 10 o 0, rk_i k, rk_i v, rk_i i, x4] [] 0 := by
        intro v x4 hv
        subst hv
        refine hG 20 _ _ _ _ _ rfl ?_
        refine And.intro (And.intro (by omega) (by omega)) ?_
        exact rk_gto (hnext (by omega) x4) rfl rfl rfl
      refine And.intro (And.intro hi0 hi1) (And.intro ?_ ?_)
      · intro hst
        refine hstep _ _ ?_
        have : rs_cn M o k i = 0 := if_neg (fun q => q.1 hst)
        omega
      · intro hst
        refine And.intro ?_ ?_
        · intro hik
          refine hstep _ _ ?_
          have : rs_cn M o k i = 0 := if_neg (fun q => q.2 hik)
          omega
        · intro hik
          have ecn : rs_cn M o k i = if rs_pt M o i k = 0 then 1 else if rs_bf M o (rs_pt M o i k) i k ≠ 0 then 2 else 0 := if_pos ⟨hst, hik⟩
          have hpb := rs_pt_b M o i k
          refine And.intro (And.intro rfl (show pr_se_partingStep M o i k from ⟨hi0, hi1, h0, h1⟩)) (And.intro (Nat.le_refl _) ?_)
          intro z M1 hq
          have hz : z = rk_one (rs_pt M o i k) := hq.1
          have hM : M1 = M := hq.2
          subst hz; subst hM
          refine And.intro ?_ ?_
          · intro hp0
            refine And.intro (show pp_se_isBeforeAt [rk_r 10 o 0, rk_i (rs_pt M1 o i k), rk_i i, rk_i k] M1 from And.intro rfl (show pr_se_isBeforeAt M1 o (rs_pt M1 o i k) i k from ⟨by omega, by omega, hi0, hi1, h0, h1⟩)) (And.intro (Nat.le_refl _) ?_)
            intro z M2 hq
            have hz : z = rk_one (rs_bf M1 o (rs_pt M1 o i k) i k) := hq.1
            have hM : M2 = M1 := hq.2
            subst hz; subst hM
            rw [if_neg hp0] at ecn
            refine And.intro ?_ ?_
            · intro hb0
              rw [if_neg (fun q => q hb0)] at ecn
              exact hstep _ _ (by omega)
            · intro hb1
              rw [if_pos hb1] at ecn
              refine And.intro (And.intro (by omega) (by omega)) ?_
              exact hstep _ _ (by omega)
          · intro hp0
            rw [if_pos hp0] at ecn
            refine And.intro (And.intro (by omega) (by omega)) ?_
            exact hstep _ _ (by omega)
  exact key 0 (Nat.zero_le _) rk_u
end
section
/-! Contracts of the class's Segment: settle -/
/-- the same but for what settle writes -/
def rs_ag (M M1 : rk_M) (o : Int) : Prop := ∀ t o' r i, ¬ ((t = 19 ∨ t = 21 ∨ t = 23) ∧ o' = o) → M1 t o' r i = M t o' r i
theorem rs_ag.rf {M : rk_M} {o : Int} : rs_ag M M o := fun _ _ _ _ _ => rfl
theorem rs_ag.tr {M M1 M2 : rk_M} {o : Int} (h : rs_ag M M1 o) (h2 : rs_ag M1 M2 o) : rs_ag M M2 o := fun t o' r i hn => (h2 t o' r i hn).trans (h t o' r i hn)
theorem rs_ag.ok {M M1 : rk_M} {o : Int} (h : rs_ag M M1 o) (hk : rs_ok M o) : rs_ok M1 o := by
  obtain ⟨h0, h1, h2, h3, h4, h5⟩ := hk
  have e3 : M1 10 o 0 3 = M 10 o 0 3 := h _ _ _ _ (by omega)
  have e4 : M1 10 o 0 4 = M 10 o 0 4 := h _ _ _ _ (by omega)
  refine ⟨by rw [e3]; exact h0, by rw [e3]; exact h1, by rw [e4]; exact h2, by rw [e4]; exact h3, fun j k a b c d => ?_, fun k c d => ?_⟩
  · rw [h 14 o j k (by omega), h 16 o j k (by omega)]; exact h4 j k a b c d
  · rw [h 18 o 0 k (by omega), h 18 o 1 k (by omega)]; exact h5 k c d
theorem rs_ag.w {M M1 : rk_M} {o : Int} (h : rs_ag M M1 o) (j k : Int) : rs_w M1 o j k = rs_w M o j k := by
  unfold rs_w
  rw [h 14 o j k (by omega), h 16 o j k (by omega), rs_wo_congr (h 18 o 0 k (by omega)) (h 18 o 1 k (by omega)) (h 10 o 0 0 (by omega))]
theorem rs_ag.od {M M1 : rk_M} {o : Int} (h : rs_ag M M1 o) (j k : Int) : rs_od M1 o j k = rs_od M o j k := by
  unfold rs_od
  rw [h 10 o 0 3 (by omega)]
  congr 1
  exact rk_ct_congr _ (fun p _ => by rw [h 11 o 0 p (by omega), h.w, h.w])
theorem rs_ag.pan {M M1 : rk_M} {o : Int} (h : rs_ag M M1 o) (n : Nat) : rs_pan M1 o n = rs_pan M o n := rk_ct_congr _ (fun p _ => by rw [h 12 o 0 p (by omega)])
theorem rs_od_b (M : rk_M) (o j k : Int) (h0 : 0 ≤ M 10 o 0 3) (h1 : M 10 o 0 3 ≤ 10) : 1 ≤ rs_od M o j k ∧ rs_od M o j k ≤ 11 := by
  have hb := rk_ct_b (fun p => M 11 o 0 p ≠ 0 ∧ rs_w M o j k < rs_w M o j p) (fun _ => inferInstance) (M 10 o 0 3).toNat
  change 0 ≤ rs_bt M o j k (M 10 o 0 3).toNat ∧ rs_bt M o j k (M 10 o 0 3).toNat ≤ ((M 10 o 0 3).toNat : Int) at hb
  unfold rs_od
  omega
/-- the figures, of what was told alone -/
def rf_c (M : rk_M) (o lim k : Int) : Int := rk_ct (fun j => M 12 o 0 j = 0 ∧ rs_od M o j k ≤ lim) (fun _ => inferInstance) (M 10 o 0 4).toNat
def rf_s (M : rk_M) (o lim k : Int) : Int := rk_sm (fun j => if M 12 o 0 j = 0 ∧ rs_od M o j k ≤ lim then rs_od M o j k else 0) (M 10 o 0 4).toNat
def rf_m (M : rk_M) (o k : Int) : Int := rk_mjf (fun m => rf_c M o m k) (rs_pan M o (M 10 o 0 4).toNat) (M 10 o 0 3 - 1).toNat 1
def rf_g (M : rk_M) (o w k : Int) : Int := if w = 0 then rf_m M o k else if w = 1 then rf_c M o (rf_m M o k) k else if w = 2 then rf_s M o (rf_m M o k) k else rf_s M o (M 10 o 0 3) k
def rf_M (M : rk_M) (o : Int) : rk_M := fun t o' r i => if t = 23 ∧ o' = o then rf_g M o r i else M t o' r i
def rf_pl (M : rk_M) (o k : Int) : Int := 2 + rs_ps (rf_M M o) o k (M 10 o 0 3).toNat
theorem rk_mjf_congr {c d : Int → Int} (h : ∀ m, c m = d m) (p : Int) : ∀ (f : Nat) (m : Int), rk_mjf c p f m = rk_mjf d p f m
  | 0, _ => rfl
  | f + 1, m => by
    show (if 2 * c m ≤ p then rk_mjf c p f (m + 1) else m) = if 2 * d m ≤ p then rk_mjf d p f (m + 1) else m
    rw [h m, rk_mjf_congr h p f (m + 1)]
theorem rs_pt_congr {M1 M2 : rk_M} {o a b : Int} (ha : ∀ w, 0 ≤ w → w < 4 → M1 23 o w a = M2 23 o w a) (hb : ∀ w, 0 ≤ w → w < 4 → M1 23 o w b = M2 23 o w b) : rs_pt M1 o a b = rs_pt M2 o a b := by
  unfold rs_pt
  rw [ha 0 (by omega) (by omega), ha 1 (by omega) (by omega), ha 2 (by omega) (by omega), ha 3 (by omega) (by omega), hb 0 (by omega) (by omega), hb 1 (by omega) (by omega), hb 2 (by omega) (by omega), hb 3 (by omega) (by omega)]
theorem rs_bf_congr {M1 M2 : rk_M} {o s a b : Int} (h1 : 1 ≤ s) (h4 : s ≤ 4) (ha : ∀ w, 0 ≤ w → w < 4 → M1 23 o w a = M2 23 o w a) (hb : ∀ w, 0 ≤ w → w < 4 → M1 23 o w b = M2 23 o w b) : rs_bf M1 o s a b = rs_bf M2 o s a b := by
  unfold rs_bf
  rw [ha 1 (by omega) (by omega), hb 1 (by omega) (by omega), ha (s - 1) (by omega) (by omega), hb (s - 1) (by omega) (by omega)]
theorem rs_cn_congr {M1 M2 : rk_M} {o k p : Int} (h11 : M1 11 o 0 p = M2 11 o 0 p) (ha : ∀ w, 0 ≤ w → w < 4 → M1 23 o w p = M2 23 o w p) (hb : ∀ w, 0 ≤ w → w < 4 → M1 23 o w k = M2 23 o w k) : rs_cn M1 o k p = rs_cn M2 o k p := by
  unfold rs_cn
  rw [h11, rs_pt_congr ha hb]
  have hp := rs_pt_b M2 o p k
  by_cases h0 : rs_pt M2 o p k = 0
  · simp only [if_pos h0]
  · rw [rs_bf_congr (by omega) (by omega) ha hb]
theorem rf_M_23 {M : rk_M} {o w k : Int} : rf_M M o 23 o w k = rf_g M o w k := if_pos ⟨rfl, rfl⟩
theorem rf_M_11 {M : rk_M} {o k : Int} : rf_M M o 11 o 0 k = M 11 o 0 k := if_neg (by omega)
def rs_set (M : rk_M) (o : Int) (M' : rk_M) : Prop := rs_ag M M' o ∧ (rs_com M o = 0 → M' = M) ∧ (rs_com M o ≠ 0 → ∀ k, 0 ≤ k → k < M 10 o 0 3 → (∀ w, 0 ≤ w → w < 4 → M' 23 o w k = rf_g M o w k) ∧ M' 23 o 4 k = rf_pl M o k)
theorem rs_com_01 (M : rk_M) (o : Int) : rs_com M o = 0 ∨ rs_com M o = 1 := by
  unfold rs_com
  by_cases h : rs_cpl M o
  · right; exact if_pos h
  · left; exact if_neg h
def pr_se_settle (M : rk_M) (o : Int) : Prop := rs_ok M o
def po_se_settle (M : rk_M) (o : Int) (z : rk_Z) (M' : rk_M) : Prop := z = rk_one (rs_com M o) ∧ rs_set M o M'
def pp_se_settle (as : List rk_V) (M : rk_M) : Prop := as = [rk_r 10 (rk_ao as) 0] ∧ pr_se_settle M (rk_ao as)
def qq_se_settle (as : List rk_V) (M : rk_M) (z : rk_Z) (M' : rk_M) : Prop := po_se_settle M (rk_ao as) z M'
set_option maxHeartbeats 1000000 in
set_option maxRecDepth 20000 in
theorem c_se_settle (l : Launch) : rk_Sp l rk_cs yn_se_settle (.code yn_se_settle prog_3_method_13_code 3 (some .boolean)) 3 pp_se_settle qq_se_settle 0 := by
  refine rk_mk (kc := kc_se_settle) (ft := ft_se) (ca := [(2 * 85, (1, pp_se_isComplete, qq_se_isComplete, 0)), (2 * 64, (2, pp_se_fillOrdinals, qq_se_fillOrdinals, 0)), (2 * 88, (1, pp_se_panelSize, qq_se_panelSize, 0)), (2 * 91, (3, pp_se_fillMajority, qq_se_fillMajority, 0)), (2 * 95, (2, pp_se_fillPlace, qq_se_fillPlace, 0))]) (th := []) (stops := [11, 46, 68]) (rt := 2) ck_se_settle ftc_se (List.forall_mem_cons.mpr ⟨rk_ckV (n := 0) (c_se_isComplete l) ww_se_isComplete lk_se_85 (by decide) (by decide) (by decide) (by decide +kernel) (fun as M h => ⟨_, _, _, _, h.1, rk_rcv_se⟩), List.forall_mem_cons.mpr ⟨rk_ckV (n := 1) (c_se_fillOrdinals l) ww_se_fillOrdinals lk_se_64 (by decide) (by decide) (by decide) (by decide +kernel) (fun as M h => ⟨_, _, _, _, h.1, rk_rcv_se⟩), List.forall_mem_cons.mpr ⟨rk_ckV (n := 0) (c_se_panelSize l) ww_se_panelSize lk_se_88 (by decide) (by decide) (by decide) (by decide +kernel) (fun as M h => ⟨_, _, _, _, h.1, rk_rcv_se⟩), List.forall_mem_cons.mpr ⟨rk_ckV (n := 2) (c_se_fillMajority l) ww_se_fillMajority lk_se_91 (by decide) (by decide) (by decide) (by decide +kernel) (fun as M h => ⟨_, _, _, _, h.1, rk_rcv_se⟩), List.forall_mem_cons.mpr ⟨rk_ckV (n := 1) (c_se_fillPlace l) ww_se_fillPlace lk_se_95 (by decide) (by decide) (by decide) (by decide +kernel) (fun as M h => ⟨_, _, _, _, h.1, rk_rcv_se⟩), fun _ h => absurd h List.not_mem_nil⟩⟩⟩⟩⟩) (fun _ h => absurd h List.not_mem_nil) (Or.inr (Or.inr (Or.inl ⟨rfl, rfl⟩))) (by decide +kernel) (fun as M h => by rw [h.1]; exact ⟨Nat.le_of_ble_eq_true rfl, rk_nlok rfl⟩) ?_
  intro L as M G hp hrg hG
  obtain ⟨has, hP⟩ := hp
  generalize rk_ao as = o at has hP
  subst has
  obtain ⟨hs0, hs1, hj0, hj1, hmk, hdd⟩ := id hP
  have hok : rs_ok M o := hP
  have loopC : rs_com M o ≠ 0 → ∀ i : Nat, i ≤ (M 10 o 0 3).toNat → ∀ (M1 : rk_M) (x1 : rk_V), rs_ag M M1 o → (∀ k, 0 ≤ k → k < M 10 o 0 3 → ∀ w, 0 ≤ w → w < 4 → M1 23 o w k = rf_g M o w k) → (∀ k : Int, 0 ≤ k → k < i → M1 23 o 4 k = rf_pl M o k) → G M1 68 [rk_r 10 o 0, x1, rk_i i] [] 0 := by
    intro hcom
    refine rk_loop (M 10 o 0 3).toNat ?_
    intro i hi hnext M1 x1 hag hg hd
    have e3 : M1 10 o 0 3 = M 10 o 0 3 := hag _ _ _ _ (by omega)
    refine hG 40 _ _ _ _ _ rfl ?_
    refine And.intro ?_ ?_
    · intro h
      refine And.intro (Or.inr rfl) (And.intro (And.intro ?_ ?_) (Nat.le_refl _))
      · show rk_one 1 = rk_one (rs_com M o)
        rcases rs_com_01 M o with h2 | h2
        · exact absurd h2 hcom
        · rw [h2]
      · show rs_set M o M1
        exact ⟨hag, fun q => absurd q hcom, fun _ k h1 h2 => ⟨hg k h1 h2, hd k h1 (by omega)⟩⟩
    · intro h
      have hi0 : (0 : Int) ≤ i := by omega
      have hi1 : (i : Int) < 10 := by omega
      refine And.intro (And.intro rfl (show pr_se_fillPlace M1 o i from ⟨hi0, hi1, by rw [e3]; exact hs0, by rw [e3]; exact hs1⟩)) (And.intro (Nat.le_refl _) ?_)
      intro z M2 hq
      have hz : z = .inl none := hq.1
      have hM : M2 = rk_up M1 23 o 4 i (rf_pl M o i) := by
        have h2 : M2 = rk_up M1 23 o 4 i (2 + rs_ps M1 o i (M1 10 o 0 3).toNat) := hq.2
        rw [h2, e3]
        unfold rf_pl
        congr 2
        refine rk_sm_congr _ (fun p hp => rs_cn_congr ?_ ?_ ?_)
        · rw [rf_M_11]; exact hag _ _ _ _ (by omega)
        · intro w w0 w1; rw [rf_M_23]; exact hg p (by omega) (by omega) w w0 w1
        · intro w w0 w1; rw [rf_M_23]; exact hg i (by omega) (by omega) w w0 w1
      subst hz; subst hM
      refine And.intro (And.intro (by omega) (by omega)) ?_
      refine rk_gto (hnext (by omega) (rk_up M1 23 o 4 i (rf_pl M o i)) x1 ?_ ?_ ?_) rfl rfl rfl
      · intro t o' r q hn
        rw [rk_up_off (by omega)]; exact hag t o' r q hn
      · intro k h1 h2 w w0 w1
        rw [rk_up_ne (by omega)]; exact hg k h1 h2 w w0 w1
      · intro k h1 h2
        by_cases hk : k = i
        · subst hk; rw [rk_up_self]
        · rw [rk_up_ne (by omega)]; exact hd k h1 (by omega)
  have loopB : rs_com M o ≠ 0 → ∀ i : Nat, i ≤ (M 10 o 0 3).toNat → ∀ M1 : rk_M, rs_ag M M1 o → (∀ j, 0 ≤ j → j < M 10 o 0 4 → M 12 o 0 j = 0 → ∀ k, 0 ≤ k → k < M 10 o 0 3 → M1 21 o j k = rs_od M o j k) → (∀ k : Int, 0 ≤ k → k < i → ∀ w, 0 ≤ w → w < 4 → M1 23 o w k = rf_g M o w k) →
      G M1 46 [rk_r 10 o 0, rk_i (rs_pan M o (M 10 o 0 4).toNat), rk_i i] [] 0 := by
    intro hcom
    refine rk_loop (M 10 o 0 3).toNat ?_
    intro i hi hnext M1 hag hor hg
    have e3 : M1 10 o 0 3 = M 10 o 0 3 := hag _ _ _ _ (by omega)
    have e4 : M1 10 o 0 4 = M 10 o 0 4 := hag _ _ _ _ (by omega)
    have e12 : ∀ j, M1 12 o 0 j = M 12 o 0 j := fun j => hag _ _ _ _ (by omega)
    refine hG 40 _ _ _ _ _ rfl ?_
    refine And.intro ?_ ?_
    · intro h
      exact loopC hcom 0 (Nat.zero_le _) M1 _ hag (fun k h1 h2 => hg k h1 (by omega)) (fun k h1 h2 => by omega)
    · intro h
      have hi0 : (0 : Int) ≤ i := by omega
      have hi1 : (i : Int) < 10 := by omega
      have hpre : pr_se_fillMajority M1 o i (rs_pan M o (M 10 o 0 4).toNat) := by
        refine ⟨hi0, hi1, by rw [e3]; exact hs0, by rw [e3]; exact hs1, by rw [e4]; exact hj0, by rw [e4]; exact hj1, fun j q1 q2 q3 => ?_⟩
        rw [hor j q1 (by omega) (by rw [← e12]; exact q3) i hi0 (by omega)]
        have := rs_od_b M o j i hs0 hs1
        omega
      refine And.intro (And.intro rfl hpre) (And.intro (Nat.le_refl _) ?_)
      intro z M2 hq
      have hz : z = .inl none := hq.1
      have hM : M2 = rs_fm M1 o i (rs_pan M o (M 10 o 0 4).toNat) := hq.2
      subst hz
      have ec : ∀ m, rs_cu M1 o m i (M1 10 o 0 4).toNat = rf_c M o m i := fun m => by
        rw [e4]
        refine rk_ct_congr _ (fun j hj => ?_)
        rw [e12]
        by_cases hst : M 12 o 0 j = 0
        · rw [hor j (by omega) (by omega) hst i hi0 (by omega)]
        · exact ⟨fun q => absurd q.1 hst, fun q => absurd q.1 hst⟩
      have es : ∀ m, rs_su M1 o m i (M1 10 o 0 4).toNat = rf_s M o m i := fun m => by
        rw [e4]
        refine rk_sm_congr _ (fun j hj => ?_)
        rw [e12]
        by_cases hst : M 12 o 0 j = 0
        · rw [hor j (by omega) (by omega) hst i hi0 (by omega)]
        · rw [if_neg (fun q => hst q.1), if_neg (fun q => hst q.1)]
      have em : rs_mj M1 o i (rs_pan M o (M 10 o 0 4).toNat) = rf_m M o i := by
        unfold rs_mj rf_m
        rw [e3]
        exact rk_mjf_congr ec _ _ _
      have hM2 : M2 = rk_up (rk_up (rk_up (rk_up M1 23 o 0 i (rf_m M o i)) 23 o 1 i (rf_c M o (rf_m M o i) i)) 23 o 2 i (rf_s M o (rf_m M o i) i)) 23 o 3 i (rf_s M o (M 10 o 0 3) i) := by
        rw [hM]
        unfold rs_fm
        rw [em, ec, es, es, e3]
      clear hM
      subst hM2
      refine And.intro (And.intro (by omega) (by omega)) ?_
      refine rk_gto (hnext (by omega) _ ?_ ?_ ?_) rfl rfl rfl
      · intro t o' r q hn
        rw [rk_up_off (by omega), rk_up_off (by omega), rk_up_off (by omega), rk_up_off (by omega)]; exact hag t o' r q hn
      · intro j q1 q2 q3 k q4 q5
        rw [rk_up_off (by omega), rk_up_off (by omega), rk_up_off (by omega), rk_up_off (by omega)]; exact hor j q1 q2 q3 k q4 q5
      · intro k h1 h2 w w0 w1
        by_cases hk : k = i
        · subst hk
          rcases (show w = 0 ∨ w = 1 ∨ w = 2 ∨ w = 3 by omega) with rfl | rfl | rfl | rfl
          · rw [rk_up_ne (by omega), rk_up_ne (by omega), rk_up_ne (by omega), rk_up_self]; rfl
          · rw [rk_up_ne (by omega), rk_up_ne (by omega), rk_up_self]; rfl
          · rw [rk_up_ne (by omega), rk_up_self]; rfl
          · rw [rk_up_self]; rfl
        · rw [rk_up_ne (by omega), rk_up_ne (by omega), rk_up_ne (by omega), rk_up_ne (by omega)]; exact hg k h1 (by omega) w w0 w1
  have loopA : rs_com M o ≠ 0 → ∀ i : Nat, i ≤ (M 10 o 0 4).toNat → ∀ M1 : rk_M, rs_ag M M1 o → (∀ j : Int, 0 ≤ j → j < i → M 12 o 0 j = 0 → ∀ k, 0 ≤ k → k < M 10 o 0 3 → M1 21 o j k = rs_od M o j k) → G M1 11 [rk_r 10 o 0, rk_i i, rk_u] [] 0 := by
    intro hcom
    refine rk_loop (M 10 o 0 4).toNat ?_
    intro i hi hnext M1 hag hor
    have e3 : M1 10 o 0 3 = M 10 o 0 3 := hag _ _ _ _ (by omega)
    have e4 : M1 10 o 0 4 = M 10 o 0 4 := hag _ _ _ _ (by omega)
    have e12 : ∀ j, M1 12 o 0 j = M 12 o 0 j := fun j => hag _ _ _ _ (by omega)
    refine hG 40 _ _ _ _ _ rfl ?_
    refine And.intro ?_ ?_
    · intro h
      refine And.intro (And.intro rfl (show pr_se_panelSize M1 o from ⟨by rw [e4]; exact hj0, by rw [e4]; exact hj1⟩)) (And.intro (Nat.le_refl _) ?_)
      intro z M2 hq
      have hz : z = rk_one (rs_pan M o (M 10 o 0 4).toNat) := by
        have h2 : z = rk_one (rs_pan M1 o (M1 10 o 0 4).toNat) := hq.1
        rw [e4, hag.pan] at h2; exact h2
      have hM : M2 = M1 := hq.2
      subst hz; subst hM
      exact loopB hcom 0 (Nat.zero_le _) M2 hag (fun j q1 q2 q3 => hor j q1 (by omega) q3) (fun k h1 h2 => by omega)
    · intro h
      have hi0 : (0 : Int) ≤ i := by omega
      have hi1 : (i : Int) < 9 := by omega
      refine And.intro (And.intro hi0 hi1) (And.intro ?_ ?_)
      · intro hst
        refine And.intro (And.intro (by omega) (by omega)) ?_
        refine rk_gto (hnext (by omega) M1 hag ?_) rfl rfl rfl
        intro j q1 q2 q3 k q4 q5
        by_cases hji : j = i
        · subst hji; rw [e12] at hst; exact absurd q3 hst
        · exact hor j q1 (by omega) q3 k q4 q5
      · intro hst
        refine And.intro (And.intro rfl (show pr_se_fillOrdinals M1 o i from ⟨hi0, hi1, hag.ok hok⟩)) (And.intro (Nat.le_refl _) ?_)
        intro z M2 hq
        have hz : z = .inl none := hq.1
        have hM : rs_fo M1 o i M2 := hq.2
        subst hz
        refine And.intro (And.intro (by omega) (by omega)) ?_
        refine rk_gto (hnext (by omega) M2 ?_ ?_) rfl rfl rfl
        · intro t o' r q hn
          rw [hM.1 t o' r q (by omega) (by omega)]; exact hag t o' r q hn
        · intro j q1 q2 q3 k q4 q5
          by_cases hji : j = i
          · subst hji
            rw [hM.2 k q4 (by rw [e3]; exact q5)]
            exact hag.od _ _
          · rw [hM.1 21 o j k (by omega) (by omega)]
            exact hor j q1 (by omega) q3 k q4 q5
  refine hG 20 _ _ _ _ _ rfl ?_
  refine And.intro (And.intro rfl (show pr_se_isComplete M o from ⟨hs0, hs1, hj0, hj1⟩)) (And.intro (Nat.le_refl _) ?_)
  intro z M1 hq
  have hz : z = rk_one (rs_com M o) := hq.1
  have hM : M1 = M := hq.2
  subst hz; subst hM
  refine And.intro ?_ ?_
  · intro hcom
    exact loopA hcom 0 (Nat.zero_le _) M1 rs_ag.rf (fun j q1 q2 => by omega)
  · intro hcom
    refine And.intro (Or.inl rfl) (And.intro (And.intro ?_ ?_) (Nat.le_refl _))
    · show rk_one 0 = rk_one (rs_com M1 o)
      rw [hcom]
    · show rs_set M1 o M1
      exact ⟨rs_ag.rf, fun _ => rfl, fun q => absurd hcom q⟩
def pr_se_settlesFor (M : rk_M) (o k : Int) : Prop := 0 ≤ k ∧ k < 10 ∧ rs_ok M o
def po_se_settlesFor (M : rk_M) (o k : Int) (z : rk_Z) (M' : rk_M) : Prop := (M 11 o 0 k = 0 ∧ z = rk_one 0 ∧ M' = M) ∨ (M 11 o 0 k ≠ 0 ∧ z = rk_one (rs_com M o) ∧ rs_set M o M')
def pp_se_settlesFor (as : List rk_V) (M : rk_M) : Prop := as = [rk_r 10 (rk_ao as) 0, rk_i (rk_ai as 1)] ∧ pr_se_settlesFor M (rk_ao as) (rk_ai as 1)
def qq_se_settlesFor (as : List rk_V) (M : rk_M) (z : rk_Z) (M' : rk_M) : Prop := po_se_settlesFor M (rk_ao as) (rk_ai as 1) z M'
set_option maxHeartbeats 1000000 in
set_option maxRecDepth 20000 in
theorem c_se_settlesFor (l : Launch) : rk_Sp l rk_cs yn_se_settlesFor (.code yn_se_settlesFor prog_3_method_12_code 2 (some .boolean)) 4 pp_se_settlesFor qq_se_settlesFor 0 := by
  refine rk_mk (kc := kc_se_settlesFor) (ft := ft_se) (ca := [(2 * 81, (1, pp_se_settle, qq_se_settle, 0))]) (th := []) (stops := []) (rt := 2) ck_se_settlesFor ftc_se (List.forall_mem_cons.mpr ⟨rk_ckV (n := 0) (c_se_settle l) ww_se_settle lk_se_81 (by decide) (by decide) (by decide) (by decide +kernel) (fun as M h => ⟨_, _, _, _, h.1, rk_rcv_se⟩), fun _ h => absurd h List.not_mem_nil⟩) (fun _ h => absurd h List.not_mem_nil) (Or.inr (Or.inr (Or.inl ⟨rfl, rfl⟩))) (by decide +kernel) (fun as M h => by rw [h.1]; exact ⟨Nat.le_of_ble_eq_true rfl, rk_nlok rfl⟩) ?_
  intro L as M G hp hrg hG
  obtain ⟨has, hP⟩ := hp
  generalize rk_ao as = o at has hP
  generalize rk_ai as 1 = k at has hP
  subst has
  obtain ⟨h0, h1, hok⟩ := hP
  refine hG 40 _ _ _ _ _ rfl ?_
  refine And.intro (And.intro h0 h1) (And.intro ?_ ?_)
  · intro hst
    exact And.intro (Or.inl rfl) (And.intro (Or.inl ⟨hst, rfl, rfl⟩) (Nat.le_refl _))
  · intro hst
    refine And.intro (And.intro rfl (show pr_se_settle M o from hok)) (And.intro (Nat.le_refl _) ?_)
    intro z M1 hq
    have hz : z = rk_one (rs_com M o) := hq.1
    have hM : rs_set M o M1 := hq.2
    subst hz
    refine And.intro ?_ ?_
    · intro hc
      exact And.intro (Or.inl rfl) (And.intro (Or.inr ⟨hst, by show rk_one 0 = rk_one (rs_com M o); rw [hc], hM⟩) (Nat.le_refl _))
    · intro hc
      refine And.intro (Or.inr rfl) (And.intro (Or.inr ⟨hst, ?_, hM⟩) (Nat.le_refl _))
      show rk_one 1 = rk_one (rs_com M o)
      rcases rs_com_01 M o with h2 | h2
      · exact absurd h2 hc
      · rw [h2]
end
section
/-! Contracts of the class's Segment: ordinals asked for, the least sum -/
theorem rs_ag.bad {M M1 : rk_M} {o : Int} (h : rs_ag M M1 o) (j : Int) (n : Nat) : rs_bad M1 o j n = rs_bad M o j n := rk_ct_congr _ (fun p _ => by rw [h 11 o 0 p (by omega), h 14 o j p (by omega)])
theorem rs_ag.sta {M M1 : rk_M} {o : Int} (h : rs_ag M M1 o) (n : Nat) : rs_sta M1 o n = rs_sta M o n := rk_ct_congr _ (fun p _ => by rw [h 11 o 0 p (by omega)])
theorem rs_ag.inc {M M1 : rk_M} {o : Int} (h : rs_ag M M1 o) (n : Nat) : rs_inc M1 o n = rs_inc M o n := rk_ct_congr _ (fun p _ => by rw [h 12 o 0 p (by omega), h 10 o 0 3 (by omega), h.bad])
theorem rs_com_congr {M M1 : rk_M} {o : Int} (h : rs_cpl M1 o ↔ rs_cpl M o) : rs_com M1 o = rs_com M o := by
  unfold rs_com
  by_cases hc : rs_cpl M o
  · rw [if_pos (h.mpr hc), if_pos hc]
  · rw [if_neg (fun q => hc (h.mp q)), if_neg hc]
theorem rs_ag.com {M M1 : rk_M} {o : Int} (h : rs_ag M M1 o) : rs_com M1 o = rs_com M o := by
  apply rs_com_congr
  unfold rs_cpl
  rw [h 10 o 0 3 (by omega), h 10 o 0 4 (by omega), h.inc, h.sta]
theorem rs_ag.c {M M1 : rk_M} {o : Int} (h : rs_ag M M1 o) (lim k : Int) : rf_c M1 o lim k = rf_c M o lim k := by
  unfold rf_c
  rw [h 10 o 0 4 (by omega)]
  exact rk_ct_congr _ (fun p _ => by rw [h 12 o 0 p (by omega), h.od])
theorem rs_ag.s {M M1 : rk_M} {o : Int} (h : rs_ag M M1 o) (lim k : Int) : rf_s M1 o lim k = rf_s M o lim k := by
  unfold rf_s
  rw [h 10 o 0 4 (by omega)]
  exact rk_sm_congr _ (fun p _ => by rw [h 12 o 0 p (by omega), h.od])
theorem rs_ag.m {M M1 : rk_M} {o : Int} (h : rs_ag M M1 o) (k : Int) : rf_m M1 o k = rf_m M o k := by
  unfold rf_m
  rw [h 10 o 0 4 (by omega), h 10 o 0 3 (by omega), h.pan]
  exact rk_mjf_congr (fun m => h.c m k) _ _ _
theorem rs_ag.g {M M1 : rk_M} {o : Int} (h : rs_ag M M1 o) (w k : Int) : rf_g M1 o w k = rf_g M o w k := by
  unfold rf_g
  rw [h.m, h.c, h.s, h.s, h 10 o 0 3 (by omega)]
theorem rs_ag.pl {M M1 : rk_M} {o : Int} (h : rs_ag M M1 o) (k : Int) : rf_pl M1 o k = rf_pl M o k := by
  unfold rf_pl
  rw [h 10 o 0 3 (by omega)]
  congr 1
  refine rk_sm_congr _ (fun p _ => rs_cn_congr ?_ ?_ ?_)
  · rw [rf_M_11, rf_M_11]; exact h _ _ _ _ (by omega)
  · intro w _ _; rw [rf_M_23, rf_M_23]; exact h.g w p
  · intro w _ _; rw [rf_M_23, rf_M_23]; exact h.g w k
def pr_se_ordinalBy (M : rk_M) (o j k : Int) : Prop := 0 ≤ j ∧ j < 9 ∧ 0 ≤ k ∧ k < M 10 o 0 3 ∧ rs_ok M o
def po_se_ordinalBy (M : rk_M) (o j k : Int) (z : rk_Z) (M' : rk_M) : Prop := ((M 11 o 0 k = 0 ∨ rs_bad M o j (M 10 o 0 3).toNat ≠ 0) ∧ z = rk_one (-1) ∧ M' = M) ∨ ((M 11 o 0 k ≠ 0 ∧ rs_bad M o j (M 10 o 0 3).toNat = 0) ∧ z = rk_one (rs_od M o j k) ∧ rs_ag M M' o)
def pp_se_ordinalBy (as : List rk_V) (M : rk_M) : Prop := as = [rk_r 10 (rk_ao as) 0, rk_i (rk_ai as 1), rk_i (rk_ai as 2)] ∧ pr_se_ordinalBy M (rk_ao as) (rk_ai as 1) (rk_ai as 2)
def qq_se_ordinalBy (as : List rk_V) (M : rk_M) (z : rk_Z) (M' : rk_M) : Prop := po_se_ordinalBy M (rk_ao as) (rk_ai as 1) (rk_ai as 2) z M'
set_option maxHeartbeats 1000000 in
set_option maxRecDepth 20000 in
theorem c_se_ordinalBy (l : Launch) : rk_Sp l rk_cs yn_se_ordinalBy (.code yn_se_ordinalBy prog_3_method_9_code 3 (some .int)) 3 pp_se_ordinalBy qq_se_ordinalBy 0 := by
  refine rk_mk (kc := kc_se_ordinalBy) (ft := ft_se) (ca := [(2 * 56, (2, pp_se_hasMarkedStarters, qq_se_hasMarkedStarters, 0)), (2 * 64, (2, pp_se_fillOrdinals, qq_se_fillOrdinals, 0))]) (th := []) (stops := []) (rt := 1) ck_se_ordinalBy ftc_se (List.forall_mem_cons.mpr ⟨rk_ckV (n := 1) (c_se_hasMarkedStarters l) ww_se_hasMarkedStarters lk_se_56 (by decide) (by decide) (by decide) (by decide +kernel) (fun as M h => ⟨_, _, _, _, h.1, rk_rcv_se⟩), List.forall_mem_cons.mpr ⟨rk_ckV (n := 1) (c_se_fillOrdinals l) ww_se_fillOrdinals lk_se_64 (by decide) (by decide) (by decide) (by decide +kernel) (fun as M h => ⟨_, _, _, _, h.1, rk_rcv_se⟩), fun _ h => absurd h List.not_mem_nil⟩⟩) (fun _ h => absurd h List.not_mem_nil) (Or.inr (Or.inl ⟨rfl, rfl⟩)) (by decide +kernel) (fun as M h => by rw [h.1]; exact ⟨Nat.le_of_ble_eq_true rfl, rk_nlok rfl⟩) ?_
  intro L as M G hp hrg hG
  obtain ⟨has, hP⟩ := hp
  generalize rk_ao as = o at has hP
  generalize rk_ai as 1 = j at has hP
  generalize rk_ai as 2 = k at has hP
  subst has
  obtain ⟨hj0, hj1, hk0, hk1, hok⟩ := hP
  obtain ⟨hs0, hs1, hq0, hq1, hmk, hdd⟩ := id hok
  refine hG 40 _ _ _ _ _ rfl ?_
  refine And.intro (And.intro hk0 (by show k < 10; omega)) (And.intro ?_ ?_)
  · intro hst
    exact And.intro (Or.inl ⟨Or.inl hst, rfl, rfl⟩) (Nat.le_refl _)
  · intro hst
    refine And.intro (And.intro rfl (show pr_se_hasMarkedStarters M o j from ⟨hj0, hj1, hs0, hs1⟩)) (And.intro (Nat.le_refl _) ?_)
    intro z M1 hq
    have hz : z = rk_one (if rs_bad M o j (M 10 o 0 3).toNat = 0 then 1 else 0) := hq.1
    have hM : M1 = M := hq.2
    subst hz; subst hM
    by_cases hb : rs_bad M1 o j (M1 10 o 0 3).toNat = 0
    · rw [if_pos hb]
      refine And.intro ?_ ?_
      · intro _
        refine And.intro (And.intro rfl (show pr_se_fillOrdinals M1 o j from ⟨hj0, hj1, hok⟩)) (And.intro (Nat.le_refl _) ?_)
        intro z M2 hq
        have hz : z = .inl none := hq.1
        have hM : rs_fo M1 o j M2 := hq.2
        subst hz
        refine And.intro (And.intro hj0 hj1) (And.intro (And.intro hk0 (by show k < 10; omega)) (And.intro (Or.inr ⟨⟨hst, hb⟩, ?_, ?_⟩) (Nat.le_refl _)))
        · show rk_one (M2 21 o j k) = rk_one (rs_od M1 o j k)
          rw [hM.2 k hk0 hk1]
        · show rs_ag M1 M2 o
          intro t o' r q hn
          exact hM.1 t o' r q (by omega) (by omega)
      · intro h; omega
    · rw [if_neg hb]
      refine And.intro ?_ ?_
      · intro h; omega
      · intro _
        exact And.intro (Or.inl ⟨Or.inr hb, rfl, rfl⟩) (Nat.le_refl _)
/-- the last judge of the panel -/
def rs_la (M : rk_M) (o : Int) : Nat → Int
  | 0 => 0
  | n + 1 => if M 12 o 0 n = 0 then n else rs_la M o n
theorem rs_la_b (M : rk_M) (o : Int) : ∀ n : Nat, 0 ≤ rs_la M o n ∧ (rs_la M o n < n ∨ rs_la M o n = 0)
  | 0 => ⟨Int.le_refl _, Or.inr rfl⟩
  | n + 1 => by
    have h := rs_la_b M o n
    show 0 ≤ (if M 12 o 0 n = 0 then (n : Int) else rs_la M o n) ∧ ((if M 12 o 0 n = 0 then (n : Int) else rs_la M o n) < _ ∨ (if M 12 o 0 n = 0 then (n : Int) else rs_la M o n) = 0)
    split <;> omega
def pr_se_lastOfPanel (M : rk_M) (o : Int) : Prop := 0 ≤ M 10 o 0 4 ∧ M 10 o 0 4 ≤ 9
def po_se_lastOfPanel (M : rk_M) (o : Int) (z : rk_Z) (M' : rk_M) : Prop := z = rk_one (rs_la M o (M 10 o 0 4).toNat) ∧ M' = M
def pp_se_lastOfPanel (as : List rk_V) (M : rk_M) : Prop := as = [rk_r 10 (rk_ao as) 0] ∧ pr_se_lastOfPanel M (rk_ao as)
def qq_se_lastOfPanel (as : List rk_V) (M : rk_M) (z : rk_Z) (M' : rk_M) : Prop := po_se_lastOfPanel M (rk_ao as) z M'
set_option maxHeartbeats 1000000 in
set_option maxRecDepth 20000 in
theorem c_se_lastOfPanel (l : Launch) : rk_Sp l rk_cs yn_se_lastOfPanel (.code yn_se_lastOfPanel prog_3_method_21_code 3 (some .int)) 0 pp_se_lastOfPanel qq_se_lastOfPanel 0 := by
  refine rk_mk (kc := kc_se_lastOfPanel) (ft := ft_se) (ca := []) (th := []) (stops := [4]) (rt := 1) ck_se_lastOfPanel ftc_se (fun _ h => absurd h List.not_mem_nil) (fun _ h => absurd h List.not_mem_nil) (Or.inr (Or.inl ⟨rfl, rfl⟩)) (by decide +kernel) (fun as M h => by rw [h.1]; exact ⟨Nat.le_of_ble_eq_true rfl, rk_nlok rfl⟩) ?_
  intro L as M G hp hrg hG
  obtain ⟨has, hP⟩ := hp
  generalize rk_ao as = o at has hP
  subst has
  obtain ⟨hj0, hj1⟩ := hP
  refine hG 9 _ _ _ _ _ rfl ?_
  refine rk_loop (P := fun i => G M 4 [rk_r 10 o 0, rk_i (rs_la M o i), rk_i i] [] 0) (M 10 o 0 4).toNat ?_ 0 (Nat.zero_le _)
  intro i hi hnext
  refine hG 40 _ _ _ _ _ rfl ?_
  refine And.intro ?_ ?_
  · intro h
    have hi' : i = (M 10 o 0 4).toNat := by omega
    subst hi'
    exact And.intro (And.intro rfl rfl) (Nat.le_refl _)
  · intro h
    repeat' (first | refine And.intro ?_ ?_ | intro _)
    all_goals (try omega)
    · rename_i hc
      refine rk_gto (hnext (by omega)) rfl ?_ rfl
      have e : rs_la M o (i + 1) = rs_la M o i := if_neg hc
      rw [e]; rfl
    · rename_i hc
      refine rk_gto (hnext (by omega)) rfl ?_ rfl
      have e : rs_la M o (i + 1) = i := if_pos hc
      rw [e]; rfl
/-- the FIRST number of the best mark of a sum -/
def rs_b0 (M : rk_M) (o k sum lo : Int) : Nat → Int
  | 0 => lo
  | n + 1 => if rs_wo M o k (rs_b0 M o k sum lo n) (sum - rs_b0 M o k sum lo n) < rs_wo M o k (lo + 1 + n) (sum - (lo + 1 + n)) then lo + 1 + n else rs_b0 M o k sum lo n
def rs_lo (sum : Int) : Int := if 0 < sum - 60 then sum - 60 else 0
def rs_hi (sum : Int) : Int := if sum < 60 then sum else 60
def rs_bst (M : rk_M) (o k sum : Int) : Int := rs_b0 M o k sum (rs_lo sum) (rs_hi sum - rs_lo sum).toNat
theorem rs_b0_b (M : rk_M) (o k sum lo : Int) : ∀ n : Nat, lo ≤ rs_b0 M o k sum lo n ∧ rs_b0 M o k sum lo n ≤ lo + n
  | 0 => ⟨Int.le_refl _, by show lo ≤ lo + ((0 : Nat) : Int); omega⟩
  | n + 1 => by
    have h := rs_b0_b M o k sum lo n
    unfold rs_b0
    split <;> omega
theorem rs_bst_b (M : rk_M) (o k sum : Int) (h0 : 0 ≤ sum) (h1 : sum ≤ 120) : 0 ≤ rs_bst M o k sum ∧ rs_bst M o k sum ≤ 60 ∧ 0 ≤ sum - rs_bst M o k sum ∧ sum - rs_bst M o k sum ≤ 60 := by
  have h := rs_b0_b M o k sum (rs_lo sum) (rs_hi sum - rs_lo sum).toNat
  change rs_lo sum ≤ rs_bst M o k sum ∧ rs_bst M o k sum ≤ _ at h
  unfold rs_lo rs_hi at h
  split at h <;> split at h <;> omega
def pr_se_bestFirst (M : rk_M) (o k sum : Int) : Prop := 0 ≤ k ∧ k < 10 ∧ 0 ≤ sum ∧ sum ≤ 120 ∧ 0 ≤ M 18 o 0 k ∧ M 18 o 0 k ≤ 60 ∧ 0 ≤ M 18 o 1 k ∧ M 18 o 1 k ≤ 60
def po_se_bestFirst (M : rk_M) (o k sum : Int) (z : rk_Z) (M' : rk_M) : Prop := z = rk_one (rs_bst M o k sum) ∧ M' = M
def pp_se_bestFirst (as : List rk_V) (M : rk_M) : Prop := as = [rk_r 10 (rk_ao as) 0, rk_i (rk_ai as 1), rk_i (rk_ai as 2)] ∧ pr_se_bestFirst M (rk_ao as) (rk_ai as 1) (rk_ai as 2)
def qq_se_bestFirst (as : List rk_V) (M : rk_M) (z : rk_Z) (M' : rk_M) : Prop := po_se_bestFirst M (rk_ao as) (rk_ai as 1) (rk_ai as 2) z M'
set_option maxHeartbeats 1000000 in
set_option maxRecDepth 20000 in
theorem c_se_bestFirst (l : Launch) : rk_Sp l rk_cs yn_se_bestFirst (.code yn_se_bestFirst prog_3_method_23_code 6 (some .int)) 2 pp_se_bestFirst qq_se_bestFirst 0 := by
  refine rk_mk (kc := kc_se_bestFirst) (ft := ft_se) (ca := [(2 * 68 + 1, (2, pp_jd_max, qq_jd_max, 0)), (2 * 125 + 1, (2, pp_jd_min, qq_jd_min, 0)), (2 * 77, (4, pp_se_worth, qq_se_worth, 0))]) (th := []) (stops := [22]) (rt := 1) ck_se_bestFirst ftc_se (List.forall_mem_cons.mpr ⟨rk_ckS (n := 2) (c_jd_max l) ww_jd_max lk_se_68 (by decide) (by decide) (by decide) (by decide +kernel), List.forall_mem_cons.mpr ⟨rk_ckS (n := 2) (c_jd_min l) ww_jd_min lk_se_125 (by decide) (by decide) (by decide) (by decide +kernel), List.forall_mem_cons.mpr ⟨rk_ckV (n := 3) (c_se_worth l) ww_se_worth lk_se_77 (by decide) (by decide) (by decide) (by decide +kernel) (fun as M h => ⟨_, _, _, _, h.1, rk_rcv_se⟩), fun _ h => absurd h List.not_mem_nil⟩⟩⟩) (fun _ h => absurd h List.not_mem_nil) (Or.inr (Or.inl ⟨rfl, rfl⟩)) (by decide +kernel) (fun as M h => by rw [h.1]; exact ⟨Nat.le_of_ble_eq_true rfl, rk_nlok rfl⟩) ?_
  intro L as M G hp hrg hG
  obtain ⟨has, hP⟩ := hp
  generalize rk_ao as = o at has hP
  generalize rk_ai as 1 = k at has hP
  generalize rk_ai as 2 = sum at has hP
  subst has
  obtain ⟨hk0, hk1, h0, h1, d0, d1, d2, d3⟩ := hP
  have hlh : 0 ≤ rs_lo sum ∧ rs_lo sum ≤ rs_hi sum ∧ rs_hi sum ≤ 60 ∧ rs_hi sum ≤ sum ∧ sum - rs_lo sum ≤ 60 := by
    unfold rs_lo rs_hi
    split <;> split <;> omega
  have key : ∀ i : Nat, i ≤ (rs_hi sum - rs_lo sum).toNat → G M 22 [rk_r 10 o 0, rk_i k, rk_i sum, rk_i (rs_b0 M o k sum (rs_lo sum) i), rk_i (rs_hi sum), rk_i (rs_lo sum + 1 + i)] [] 0 := by
    refine rk_loop (rs_hi sum - rs_lo sum).toNat ?_
    intro i hi hnext
    have hb := rs_b0_b M o k sum (rs_lo sum) i
    refine hG 40 _ _ _ _ _ rfl ?_
    refine And.intro ?_ ?_
    · intro h
      have hi' : i = (rs_hi sum - rs_lo sum).toNat := by omega
      refine And.intro (And.intro ?_ rfl) (Nat.le_refl _)
      show rk_one (rs_b0 M o k sum (rs_lo sum) i) = rk_one (rs_bst M o k sum)
      rw [hi']; rfl
    · intro h
      refine And.intro (And.intro (by omega) (by omega)) (And.intro (And.intro rfl (show pr_se_worth M o k (rs_lo sum + 1 + i) (sum - (rs_lo sum + 1 + i)) from ⟨hk0, hk1, by omega, by omega, by omega, by omega, d0, d1, d2, d3⟩)) (And.intro (Nat.le_refl _) ?_))
      intro z M1 hq
      have hz : z = rk_one (rs_wo M o k (rs_lo sum + 1 + i) (sum - (rs_lo sum + 1 + i))) := hq.1
      have hM : M1 = M := hq.2
      subst hz; subst hM
      refine And.intro (And.intro (by omega) (by omega)) (And.intro (And.intro rfl (show pr_se_worth M1 o k (rs_b0 M1 o k sum (rs_lo sum) i) (sum - rs_b0 M1 o k sum (rs_lo sum) i) from ⟨hk0, hk1, by omega, by omega, by omega, by omega, d0, d1, d2, d3⟩)) (And.intro (Nat.le_refl _) ?_))
      intro z M2 hq
      have hz : z = rk_one (rs_wo M1 o k (rs_b0 M1 o k sum (rs_lo sum) i) (sum - rs_b0 M1 o k sum (rs_lo sum) i)) := hq.1
      have hM : M2 = M1 := hq.2
      subst hz; subst hM
      have e1 : rs_lo sum + 1 + ((i + 1 : Nat) : Int) = rs_lo sum + 1 + i + 1 := by omega
      refine And.intro ?_ ?_
      · intro hc
        have e : rs_b0 M2 o k sum (rs_lo sum) (i + 1) = rs_b0 M2 o k sum (rs_lo sum) i := if_neg (by omega)
        refine And.intro (And.intro (by omega) (by omega)) ?_
        refine rk_gto (hnext (by omega)) rfl ?_ rfl
        rw [e, e1]; rfl
      · intro hc
        have e : rs_b0 M2 o k sum (rs_lo sum) (i + 1) = rs_lo sum + 1 + i := if_pos hc
        refine And.intro (And.intro (by omega) (by omega)) ?_
        refine rk_gto (hnext (by omega)) rfl ?_ rfl
        rw [e, e1]; rfl
  refine hG 40 _ _ _ _ _ rfl ?_
  refine And.intro (And.intro (by omega) (by omega)) (And.intro (And.intro rfl trivial) (And.intro (Nat.le_refl _) ?_))
  intro z M1 hq
  have hz : z = rk_one (rs_lo sum) := hq.1
  have hM : M1 = M := hq.2
  subst hz; subst hM
  refine And.intro (And.intro rfl trivial) (And.intro (Nat.le_refl _) ?_)
  intro z M2 hq
  have hz : z = rk_one (rs_hi sum) := hq.1
  have hM : M2 = M1 := hq.2
  subst hz; subst hM
  refine And.intro (And.intro (by omega) (by omega)) ?_
  refine rk_gto (key 0 (Nat.zero_le _)) rfl ?_ rfl
  have e1 : rs_lo sum + 1 + ((0 : Nat) : Int) = rs_lo sum + 1 := by omega
  rw [e1]; rfl
end
section
/-! Contracts of the class's Segment: the least sum; a new event -/
/-- the memory with the best mark of a sum in the place of a judge's -/
def rs_mk (M : rk_M) (o j k sum : Int) : rk_M := rk_up (rk_up M 14 o j k (rs_bst M o k sum)) 16 o j k (sum - rs_bst M o k sum)
def rs_rc (M : rk_M) (o j k sum pl : Int) : Int := if rs_com (rs_mk M o j k sum) o ≠ 0 ∧ rf_pl (rs_mk M o j k sum) o k ≤ pl then 1 else 0
theorem rs_mk_ok {M : rk_M} {o j k sum : Int} (hok : rs_ok M o) (h0 : 0 ≤ sum) (h1 : sum ≤ 120) : rs_ok (rs_mk M o j k sum) o := by
  obtain ⟨a0, a1, a2, a3, a4, a5⟩ := hok
  have hb := rs_bst_b M o k sum h0 h1
  have e : ∀ t o' r i, t ≠ 14 → t ≠ 16 → rs_mk M o j k sum t o' r i = M t o' r i := fun t o' r i h14 h16 => by
    unfold rs_mk
    rw [rk_up_off (by omega), rk_up_off (by omega)]
  refine ⟨by rw [e _ _ _ _ (by omega) (by omega)]; exact a0, by rw [e _ _ _ _ (by omega) (by omega)]; exact a1, by rw [e _ _ _ _ (by omega) (by omega)]; exact a2, by rw [e _ _ _ _ (by omega) (by omega)]; exact a3, fun j' k' b0 b1 b2 b3 => ?_, fun k' b0 b1 => by rw [e _ _ _ _ (by omega) (by omega), e _ _ _ _ (by omega) (by omega)]; exact a5 k' b0 b1⟩
  have h := a4 j' k' b0 b1 b2 b3
  unfold rs_mk
  unfold rk_up
  constructor
  · split <;> (try split) <;> omega
  constructor
  · split <;> (try split) <;> omega
  constructor
  · split <;> (try split) <;> omega
  · split <;> (try split) <;> omega
def pr_se_reaches (M : rk_M) (o j k sum pl : Int) : Prop := 0 ≤ j ∧ j < 9 ∧ 0 ≤ k ∧ k < M 10 o 0 3 ∧ 0 ≤ sum ∧ sum ≤ 120 ∧ rs_ok M o
def po_se_reaches (M : rk_M) (o j k sum pl : Int) (z : rk_Z) (M' : rk_M) : Prop := z = rk_one (rs_rc M o j k sum pl) ∧ rs_ag (rs_mk M o j k sum) M' o
def pp_se_reaches (as : List rk_V) (M : rk_M) : Prop := as = [rk_r 10 (rk_ao as) 0, rk_i (rk_ai as 1), rk_i (rk_ai as 2), rk_i (rk_ai as 3), rk_i (rk_ai as 4)] ∧ pr_se_reaches M (rk_ao as) (rk_ai as 1) (rk_ai as 2) (rk_ai as 3) (rk_ai as 4)
def qq_se_reaches (as : List rk_V) (M : rk_M) (z : rk_Z) (M' : rk_M) : Prop := po_se_reaches M (rk_ao as) (rk_ai as 1) (rk_ai as 2) (rk_ai as 3) (rk_ai as 4) z M'
set_option maxHeartbeats 1000000 in
set_option maxRecDepth 20000 in
theorem c_se_reaches (l : Launch) : rk_Sp l rk_cs yn_se_reaches (.code yn_se_reaches prog_3_method_22_code 6 (some .boolean)) 4 pp_se_reaches qq_se_reaches 0 := by
  refine rk_mk (kc := kc_se_reaches) (ft := ft_se) (ca := [(2 * 122, (3, pp_se_bestFirst, qq_se_bestFirst, 0)), (2 * 118, (5, pp_se_setMark, qq_se_setMark, 0)), (2 * 81, (1, pp_se_settle, qq_se_settle, 0))]) (th := []) (stops := []) (rt := 2) ck_se_reaches ftc_se (List.forall_mem_cons.mpr ⟨rk_ckV (n := 2) (c_se_bestFirst l) ww_se_bestFirst lk_se_122 (by decide) (by decide) (by decide) (by decide +kernel) (fun as M h => ⟨_, _, _, _, h.1, rk_rcv_se⟩), List.forall_mem_cons.mpr ⟨rk_ckV (n := 4) (c_se_setMark l) ww_se_setMark lk_se_118 (by decide) (by decide) (by decide) (by decide +kernel) (fun as M h => ⟨_, _, _, _, h.1, rk_rcv_se⟩), List.forall_mem_cons.mpr ⟨rk_ckV (n := 0) (c_se_settle l) ww_se_settle lk_se_81 (by decide) (by decide) (by decide) (by decide +kernel) (fun as M h => ⟨_, _, _, _, h.1, rk_rcv_se⟩), fun _ h => absurd h List.not_mem_nil⟩⟩⟩) (fun _ h => absurd h List.not_mem_nil) (Or.inr (Or.inr (Or.inl ⟨rfl, rfl⟩))) (by decide +kernel) (fun as M h => by rw [h.1]; exact ⟨Nat.le_of_ble_eq_true rfl, rk_nlok rfl⟩) ?_
  intro L as M G hp hrg hG
  obtain ⟨has, hP⟩ := hp
  generalize rk_ao as = o at has hP
  generalize rk_ai as 1 = j at has hP
  generalize rk_ai as 2 = k at has hP
  generalize rk_ai as 3 = sum at has hP
  generalize rk_ai as 4 = pl at has hP
  subst has
  obtain ⟨hj0, hj1, hk0, hk1, h0, h1, hok⟩ := hP
  obtain ⟨hs0, hs1, hq0, hq1, hmk, hdd⟩ := id hok
  have hb := rs_bst_b M o k sum h0 h1
  obtain ⟨d0, d1, d2, d3⟩ := hdd k hk0 (by omega)
  have e3 : rs_mk M o j k sum 10 o 0 3 = M 10 o 0 3 := by unfold rs_mk; rw [rk_up_off (by omega), rk_up_off (by omega)]
  refine hG 60 _ _ _ _ _ rfl ?_
  refine And.intro (And.intro rfl (show pr_se_bestFirst M o k sum from ⟨hk0, by omega, h0, h1, d0, d1, d2, d3⟩)) (And.intro (Nat.le_refl _) ?_)
  intro z M1 hq
  have hz : z = rk_one (rs_bst M o k sum) := hq.1
  have hM : M1 = M := hq.2
  subst hz; subst hM
  refine And.intro (And.intro (by omega) (by omega)) (And.intro (And.intro rfl (show pr_se_setMark M1 o j k (rs_bst M1 o k sum) (sum - rs_bst M1 o k sum) from ⟨hj0, hj1, hk0, by omega⟩)) (And.intro (Nat.le_refl _) ?_))
  intro z M2 hq
  have hz : z = .inl none := hq.1
  have hM : M2 = rs_mk M1 o j k sum := hq.2
  subst hz; subst hM
  refine And.intro (And.intro rfl (show pr_se_settle (rs_mk M1 o j k sum) o from rs_mk_ok hok h0 h1)) (And.intro (Nat.le_refl _) ?_)
  intro z M3 hq
  have hz : z = rk_one (rs_com (rs_mk M1 o j k sum) o) := hq.1
  have hM : rs_set (rs_mk M1 o j k sum) o M3 := hq.2
  subst hz
  refine And.intro ?_ ?_
  · intro hc
    refine And.intro (Or.inl rfl) (And.intro (And.intro ?_ hM.1) (Nat.le_refl _))
    show rk_one 0 = rk_one (rs_rc M1 o j k sum pl)
    unfold rs_rc
    rw [if_neg (fun q => q.1 hc)]
  · intro hc
    have hf := (hM.2.2 hc k hk0 (by rw [e3]; exact hk1)).2
    refine And.intro (And.intro (by decide) (by decide)) (And.intro (And.intro hk0 (by show k < 10; omega)) (And.intro ?_ ?_))
    · intro hp
      refine And.intro (Or.inl rfl) (And.intro (And.intro ?_ hM.1) (Nat.le_refl _))
      show rk_one 0 = rk_one (rs_rc M1 o j k sum pl)
      unfold rs_rc
      rw [if_neg (fun q => by have := q.2; omega)]
    · intro hp
      refine And.intro (Or.inr rfl) (And.intro (And.intro ?_ hM.1) (Nat.le_refl _))
      show rk_one 1 = rk_one (rs_rc M1 o j k sum pl)
      unfold rs_rc
      rw [if_pos ⟨hc, by omega⟩]
def rs_jm (i : Nat) : Int := [64, 32, 16, 8, 4, 2, 1].getD i 0
def rs_hv (R : Int → Int) : Nat → Int
  | 0 => 0
  | i + 1 => if rs_hv R i + rs_jm i - 1 < 121 ∧ R (rs_hv R i + rs_jm i - 1) = 0 then rs_hv R i + rs_jm i else rs_hv R i
def rs_ls (M : rk_M) (o k pl : Int) : Int := if rs_hv (fun s => rs_rc M o (rs_la M o (M 10 o 0 4).toNat) k s pl) 7 < 121 then rs_hv (fun s => rs_rc M o (rs_la M o (M 10 o 0 4).toNat) k s pl) 7 else -1
theorem rs_jm_b : ∀ i, i < 7 → 1 ≤ rs_jm i ∧ rs_jm i ≤ 64 ∧ rs_jm i / 2 = rs_jm (i + 1) := by decide
theorem rs_hv_b (R : Int → Int) : ∀ i : Nat, i ≤ 7 → 0 ≤ rs_hv R i ∧ rs_hv R i ≤ 64 * i
  | 0, _ => ⟨Int.le_refl _, Int.le_refl _⟩
  | i + 1, hi => by
    have h := rs_hv_b R i (by omega)
    have hj := rs_jm_b i (by omega)
    unfold rs_hv
    split <;> omega
theorem rs_bst_congr {M M1 : rk_M} {o k sum : Int} (h0 : M1 18 o 0 k = M 18 o 0 k) (h1 : M1 18 o 1 k = M 18 o 1 k) (h2 : M1 10 o 0 0 = M 10 o 0 0) : rs_bst M1 o k sum = rs_bst M o k sum := by
  unfold rs_bst
  have key : ∀ (lo : Int) (n : Nat), rs_b0 M1 o k sum lo n = rs_b0 M o k sum lo n := by
    intro lo n
    induction n with
    | zero => rfl
    | succ n ih =>
      unfold rs_b0
      rw [ih, rs_wo_congr h0 h1 h2, rs_wo_congr h0 h1 h2]
  exact key _ _
/-- the same but for one mark and what settle writes -/
def rs_a1 (M M1 : rk_M) (o j k : Int) : Prop := ∀ t o' r i, ¬ ((t = 19 ∨ t = 21 ∨ t = 23) ∧ o' = o) → ¬ ((t = 14 ∨ t = 16) ∧ o' = o ∧ r = j ∧ i = k) → M1 t o' r i = M t o' r i
theorem rs_a1.mk {M M1 : rk_M} {o j k : Int} (h : rs_a1 M M1 o j k) (sum : Int) : rs_ag (rs_mk M o j k sum) (rs_mk M1 o j k sum) o := by
  intro t o' r i hn
  have hb : rs_bst M1 o k sum = rs_bst M o k sum := rs_bst_congr (h _ _ _ _ (by omega) (by omega)) (h _ _ _ _ (by omega) (by omega)) (h _ _ _ _ (by omega) (by omega))
  unfold rs_mk
  rw [hb]
  unfold rk_up
  split
  · rfl
  · split
    · rfl
    · exact h t o' r i hn (by omega)
def pr_se_leastSum (M : rk_M) (o k pl : Int) : Prop := 0 ≤ k ∧ k < M 10 o 0 3 ∧ rs_ok M o
def po_se_leastSum (M : rk_M) (o k pl : Int) (z : rk_Z) (M' : rk_M) : Prop := (M 11 o 0 k = 0 ∧ z = rk_one (-1) ∧ M' = M) ∨ (M 11 o 0 k ≠ 0 ∧ z = rk_one (rs_ls M o k pl) ∧ rs_ag M M' o)
def pp_se_leastSum (as : List rk_V) (M : rk_M) : Prop := as = [rk_r 10 (rk_ao as) 0, rk_i (rk_ai as 1), rk_i (rk_ai as 2)] ∧ pr_se_leastSum M (rk_ao as) (rk_ai as 1) (rk_ai as 2)
def qq_se_leastSum (as : List rk_V) (M : rk_M) (z : rk_Z) (M' : rk_M) : Prop := po_se_leastSum M (rk_ao as) (rk_ai as 1) (rk_ai as 2) z M'
set_option maxHeartbeats 1000000 in
set_option maxRecDepth 20000 in
theorem c_se_leastSum (l : Launch) : rk_Sp l rk_cs yn_se_leastSum (.code yn_se_leastSum prog_3_method_20_code 9 (some .int)) 5 pp_se_leastSum qq_se_leastSum 0 := by
  refine rk_mk (kc := kc_se_leastSum) (ft := ft_se) (ca := [(2 * 111, (1, pp_se_lastOfPanel, qq_se_lastOfPanel, 0)), (2 * 114, (5, pp_se_reaches, qq_se_reaches, 0)), (2 * 118, (5, pp_se_setMark, qq_se_setMark, 0))]) (th := []) (stops := [43]) (rt := 1) ck_se_leastSum ftc_se (List.forall_mem_cons.mpr ⟨rk_ckV (n := 0) (c_se_lastOfPanel l) ww_se_lastOfPanel lk_se_111 (by decide) (by decide) (by decide) (by decide +kernel) (fun as M h => ⟨_, _, _, _, h.1, rk_rcv_se⟩), List.forall_mem_cons.mpr ⟨rk_ckV (n := 4) (c_se_reaches l) ww_se_reaches lk_se_114 (by decide) (by decide) (by decide) (by decide +kernel) (fun as M h => ⟨_, _, _, _, h.1, rk_rcv_se⟩), List.forall_mem_cons.mpr ⟨rk_ckV (n := 4) (c_se_setMark l) ww_se_setMark lk_se_118 (by decide) (by decide) (by decide) (by decide +kernel) (fun as M h => ⟨_, _, _, _, h.1, rk_rcv_se⟩), fun _ h => absurd h List.not_mem_nil⟩⟩⟩) (fun _ h => absurd h List.not_mem_nil) (Or.inr (Or.inl ⟨rfl, rfl⟩)) (by decide +kernel) (fun as M h => by rw [h.1]; exact ⟨Nat.le_of_ble_eq_true rfl, rk_nlok rfl⟩) ?_
  intro L as M G hp hrg hG
  obtain ⟨has, hP⟩ := hp
  generalize rk_ao as = o at has hP
  generalize rk_ai as 1 = k at has hP
  generalize rk_ai as 2 = pl at has hP
  subst has
  obtain ⟨hk0, hk1, hok⟩ := hP
  obtain ⟨hs0, hs1, hq0, hq1, hmk, hdd⟩ := id hok
  have hjb := rs_la_b M o (M 10 o 0 4).toNat
  generalize hj : rs_la M o (M 10 o 0 4).toNat = j at hjb
  have hj0 : 0 ≤ j := hjb.1
  have hj1 : j < 9 := by omega
  have loop : M 11 o 0 k ≠ 0 → ∀ i : Nat, i ≤ 7 → ∀ (M1 : rk_M) (x8 : rk_V), rs_a1 M M1 o j k → rs_ok M1 o → G M1 43 [rk_r 10 o 0, rk_i k, rk_i pl, rk_i j, rk_i (M 14 o j k), rk_i (M 16 o j k), rk_i (rs_hv (fun s => rs_rc M o j k s pl) i), rk_i (rs_jm i), x8] [] 0 := by
    intro hst
    refine rk_loop 7 ?_
    intro i hi hnext M1 x8 ha hok1
    have hvb := rs_hv_b (fun s => rs_rc M o j k s pl) i hi
    have e3 : M1 10 o 0 3 = M 10 o 0 3 := ha _ _ _ _ (by omega) (by omega)
    refine hG 40 _ _ _ _ _ rfl ?_
    refine And.intro ?_ ?_
    · intro h
      have hi' : i = 7 := by
        rcases Nat.lt_or_ge i 7 with h2 | h2
        · have := rs_jm_b i h2; omega
        · omega
      subst hi'
      refine And.intro (And.intro rfl (show pr_se_setMark M1 o j k (M 14 o j k) (M 16 o j k) from ⟨hj0, hj1, hk0, by omega⟩)) (And.intro (Nat.le_refl _) ?_)
      intro z M2 hq
      have hz : z = .inl none := hq.1
      have hM : M2 = rk_up (rk_up M1 14 o j k (M 14 o j k)) 16 o j k (M 16 o j k) := hq.2
      subst hz; subst hM
      have hag : rs_ag M (rk_up (rk_up M1 14 o j k (M 14 o j k)) 16 o j k (M 16 o j k)) o := by
        intro t o' r q hn
        unfold rk_up
        split
        · rename_i h2; obtain ⟨rfl, rfl, rfl, rfl⟩ := h2; rfl
        · split
          · rename_i h2; obtain ⟨rfl, rfl, rfl, rfl⟩ := h2; rfl
          · exact ha t o' r q hn (by omega)
      have els : rs_ls M o k pl = if rs_hv (fun s => rs_rc M o j k s pl) 7 < 121 then rs_hv (fun s => rs_rc M o j k s pl) 7 else -1 := by unfold rs_ls; rw [hj]
      refine And.intro ?_ ?_
      · intro h2
        refine And.intro (Or.inr ⟨hst, ?_, hag⟩) (Nat.le_refl _)
        show rk_one (-1) = rk_one (rs_ls M o k pl)
        rw [els, if_neg (by omega)]
      · intro h2
        refine And.intro (Or.inr ⟨hst, ?_, hag⟩) (Nat.le_refl _)
        show rk_one _ = rk_one (rs_ls M o k pl)
        rw [els, if_pos h2]
    · intro h
      have hi7 : i < 7 := by
        rcases Nat.lt_or_ge i 7 with h2 | h2
        · exact h2
        · have : i = 7 := by omega
          subst this
          exact absurd h (by decide)
      obtain ⟨g0, g1, g2⟩ := rs_jm_b i hi7
      refine And.intro (And.intro (by omega) (by omega)) (And.intro (And.intro (by omega) (by omega)) (And.intro ?_ ?_))
      · intro hge
        have e : rs_hv (fun s => rs_rc M o j k s pl) (i + 1) = rs_hv (fun s => rs_rc M o j k s pl) i := if_neg (fun q => by have := q.1; omega)
        refine And.intro (And.intro (by omega) (by decide)) ?_
        refine rk_gto (hnext (by omega) M1 (rk_i (rs_hv (fun s => rs_rc M o j k s pl) i + rs_jm i - 1)) ha hok1) rfl ?_ rfl
        rw [e, ← g2]; rfl
      · intro hlt
        refine And.intro (And.intro rfl (show pr_se_reaches M1 o j k (rs_hv (fun s => rs_rc M o j k s pl) i + rs_jm i - 1) pl from ⟨hj0, hj1, hk0, by omega, by omega, by omega, hok1⟩)) (And.intro (Nat.le_refl _) ?_)
        intro z M2 hq
        have hrc : rs_rc M1 o j k (rs_hv (fun s => rs_rc M o j k s pl) i + rs_jm i - 1) pl = rs_rc M o j k (rs_hv (fun s => rs_rc M o j k s pl) i + rs_jm i - 1) pl := by
          unfold rs_rc
          rw [(ha.mk _).com, (ha.mk _).pl]
        have hz : z = rk_one (rs_rc M o j k (rs_hv (fun s => rs_rc M o j k s pl) i + rs_jm i - 1) pl) := by
          have h2 : z = rk_one (rs_rc M1 o j k (rs_hv (fun s => rs_rc M o j k s pl) i + rs_jm i - 1) pl) := hq.1
          rw [hrc] at h2; exact h2
        have hM : rs_ag (rs_mk M1 o j k (rs_hv (fun s => rs_rc M o j k s pl) i + rs_jm i - 1)) M2 o := hq.2
        have ha2 : rs_a1 M M2 o j k := by
          intro t o' r q hn hn2
          rw [hM t o' r q hn]
          unfold rs_mk
          rw [rk_up_ne (by omega), rk_up_ne (by omega)]
          exact ha t o' r q hn hn2
        have hok2 : rs_ok M2 o := hM.ok (rs_mk_ok hok1 (by omega) (by omega))
        subst hz
        refine And.intro ?_ ?_
        · intro hne
          have e : rs_hv (fun s => rs_rc M o j k s pl) (i + 1) = rs_hv (fun s => rs_rc M o j k s pl) i := if_neg (fun q => hne q.2)
          refine And.intro (And.intro (by omega) (by decide)) ?_
          refine rk_gto (hnext (by omega) M2 (rk_i (rs_hv (fun s => rs_rc M o j k s pl) i + rs_jm i - 1)) ha2 hok2) rfl ?_ rfl
          rw [e, ← g2]; rfl
        · intro heq
          have e : rs_hv (fun s => rs_rc M o j k s pl) (i + 1) = rs_hv (fun s => rs_rc M o j k s pl) i + rs_jm i := if_pos ⟨hlt, heq⟩
          refine And.intro (And.intro (by omega) (by omega)) (And.intro (And.intro (by omega) (by decide)) ?_)
          refine rk_gto (hnext (by omega) M2 (rk_i (rs_hv (fun s => rs_rc M o j k s pl) i + rs_jm i - 1)) ha2 hok2) rfl ?_ rfl
          rw [e, ← g2]; rfl
  refine hG 60 _ _ _ _ _ rfl ?_
  refine And.intro (And.intro hk0 (by show k < 10; omega)) (And.intro ?_ ?_)
  · intro hst
    refine And.intro (And.intro rfl (show pr_se_lastOfPanel M o from ⟨hq0, hq1⟩)) (And.intro (Nat.le_refl _) ?_)
    intro z M1 hq
    have hz : z = rk_one j := by
      have h2 : z = rk_one (rs_la M o (M 10 o 0 4).toNat) := hq.1
      rw [hj] at h2; exact h2
    have hM : M1 = M := hq.2
    subst hz; subst hM
    refine And.intro (And.intro hj0 hj1) (And.intro (And.intro hk0 (by show k < 10; omega)) (And.intro (And.intro hj0 hj1) (And.intro (And.intro hk0 (by show k < 10; omega)) ?_)))
    exact loop hst 0 (by omega) M1 rk_u (fun _ _ _ _ _ _ => rfl) hok
  · intro hst
    exact And.intro (Or.inl ⟨hst, rfl, rfl⟩) (Nat.le_refl _)
end
section
/-! Contracts of the class's Segment: a row filled; a new event -/
/-- a row of ten filled with one number -/
def rk_fl (M : rk_M) (t : Nat) (o r v : Int) (n : Int) : rk_M := fun t' o' r' i => if t' = t ∧ o' = o ∧ r' = r ∧ 0 ≤ i ∧ i < n then v else M t' o' r' i
theorem rk_fl_up (M : rk_M) (t : Nat) (o r v : Int) (n : Nat) : rk_up (rk_fl M t o r v n) t o r n v = rk_fl M t o r v ((n + 1 : Nat) : Int) := by
  funext t' o' r' i
  unfold rk_up rk_fl
  repeat' split
  all_goals first | rfl | omega
theorem rk_fl_0 (M : rk_M) (t : Nat) (o r v : Int) : rk_fl M t o r v 0 = M := by
  funext t' o' r' i
  unfold rk_fl
  rw [if_neg (by omega)]
def pp_jd_fill (as : List rk_V) (M : rk_M) : Prop := ∃ t o r v, as = [rk_r t o r, rk_i v] ∧ (t = 14 ∨ t = 16 ∨ t = 18)
def qq_jd_fill (as : List rk_V) (M : rk_M) (z : rk_Z) (M' : rk_M) : Prop := ∃ t o r v, as = [rk_r t o r, rk_i v] ∧ z = .inl none ∧ M' = rk_fl M t o r v 10
set_option maxHeartbeats 1000000 in
set_option maxRecDepth 20000 in
theorem c_jd_fill (l : Launch) : rk_Sp l rk_cs yn_jd_fill (.code yn_jd_fill prog_23_method_103_code 4 none) 0 pp_jd_fill qq_jd_fill 0 := by
  refine rk_mkF (kc := kc_jd_fill) (ft := ft_jd) (ca := []) (th := []) (stops := [5]) (rt := 0) ck_jd_fill ftc_jd_fill (fun _ h => absurd h List.not_mem_nil) (fun _ h => absurd h List.not_mem_nil) (Or.inl ⟨rfl, rfl⟩) (by decide +kernel) (fun as M h => by obtain ⟨t, o, r, v, h, _⟩ := h; rw [h]; exact ⟨Nat.le_of_ble_eq_true rfl, rk_nlok rfl⟩) ?_
  intro L as M G hp hrg hG
  obtain ⟨t, o, r, v, has, ht⟩ := hp
  subst has
  rcases ht with rfl | rfl | rfl
  · have lp := rk_loop (P := fun i => G (rk_fl M 14 o r v i) 5 [rk_r 14 o r, rk_i v, rk_i i, rk_i 10] [] 0) 10 ?_ 0 (Nat.zero_le _)
    · rw [show ((0 : Nat) : Int) = 0 from rfl, rk_fl_0] at lp
      refine hG 10 _ _ _ _ _ rfl ?_
      exact lp
    intro i hi hn
    refine hG 20 _ _ _ _ _ rfl ?_
    refine And.intro ?_ ?_
    · intro h
      refine And.intro rfl (And.intro ⟨14, o, r, v, rfl, rfl, ?_⟩ (Nat.le_refl _))
      rw [show (i : Int) = 10 by omega]
    · intro h
      refine And.intro (And.intro (by omega) (by show (i : Int) < 10; omega)) (And.intro (And.intro (by omega) (by omega)) ?_)
      refine rk_gto (hn (by omega)) (rk_fl_up M 14 o r v i) rfl rfl
  · have lp := rk_loop (P := fun i => G (rk_fl M 16 o r v i) 5 [rk_r 16 o r, rk_i v, rk_i i, rk_i 10] [] 0) 10 ?_ 0 (Nat.zero_le _)
    · rw [show ((0 : Nat) : Int) = 0 from rfl, rk_fl_0] at lp
      refine hG 10 _ _ _ _ _ rfl ?_
      exact lp
    intro i hi hn
    refine hG 20 _ _ _ _ _ rfl ?_
    refine And.intro ?_ ?_
    · intro h
      refine And.intro rfl (And.intro ⟨16, o, r, v, rfl, rfl, ?_⟩ (Nat.le_refl _))
      rw [show (i : Int) = 10 by omega]
    · intro h
      refine And.intro (And.intro (by omega) (by show (i : Int) < 10; omega)) (And.intro (And.intro (by omega) (by omega)) ?_)
      refine rk_gto (hn (by omega)) (rk_fl_up M 16 o r v i) rfl rfl
  · have lp := rk_loop (P := fun i => G (rk_fl M 18 o r v i) 5 [rk_r 18 o r, rk_i v, rk_i i, rk_i 10] [] 0) 10 ?_ 0 (Nat.zero_le _)
    · rw [show ((0 : Nat) : Int) = 0 from rfl, rk_fl_0] at lp
      refine hG 10 _ _ _ _ _ rfl ?_
      exact lp
    intro i hi hn
    refine hG 20 _ _ _ _ _ rfl ?_
    refine And.intro ?_ ?_
    · intro h
      refine And.intro rfl (And.intro ⟨18, o, r, v, rfl, rfl, ?_⟩ (Nat.le_refl _))
      rw [show (i : Int) = 10 by omega]
    · intro h
      refine And.intro (And.intro (by omega) (by show (i : Int) < 10; omega)) (And.intro (And.intro (by omega) (by omega)) ?_)
      refine rk_gto (hn (by omega)) (rk_fl_up M 18 o r v i) rfl rfl
/-- a segment of a new event -/
def rs_ro (M : rk_M) (o sk ju : Int) : rk_M := fun t o' r i => if o' = o then
    (if t = 10 ∧ r = 0 ∧ i = 2 then 0 else if t = 10 ∧ r = 0 ∧ i = 3 then sk else if t = 10 ∧ r = 0 ∧ i = 4 then ju else
     if t = 11 ∧ r = 0 ∧ 0 ≤ i ∧ i < 10 then (if i < sk then 1 else 0) else if t = 12 ∧ r = 0 ∧ 0 ≤ i ∧ i < 9 then 0 else
     if (t = 14 ∨ t = 16) ∧ 0 ≤ r ∧ r < 9 ∧ 0 ≤ i ∧ i < 10 then -1 else if t = 18 ∧ 0 ≤ r ∧ r < 2 ∧ 0 ≤ i ∧ i < 10 then 0 else M t o' r i) else M t o' r i
def rs_r1 (M : rk_M) (o sk ju : Int) (n m : Int) : rk_M := fun t o' r i => if o' = o then
    (if t = 10 ∧ r = 0 ∧ i = 2 then 0 else if t = 10 ∧ r = 0 ∧ i = 3 then sk else if t = 10 ∧ r = 0 ∧ i = 4 then ju else
     if t = 11 ∧ r = 0 ∧ 0 ≤ i ∧ i < n then (if i < sk then 1 else 0) else if t = 12 ∧ r = 0 ∧ 0 ≤ i ∧ i < m then 0 else
     if (t = 14 ∨ t = 16) ∧ 0 ≤ r ∧ r < m ∧ 0 ≤ i ∧ i < 10 then -1 else M t o' r i) else M t o' r i
theorem rs_r1_s (M : rk_M) (o sk ju : Int) (i : Nat) : rk_fl (rk_fl (rk_up (rs_r1 M o sk ju 10 i) 12 o 0 i 0) 14 o i (-1) 10) 16 o i (-1) 10 = rs_r1 M o sk ju 10 ((i + 1 : Nat) : Int) := by
  funext t' o' r' p
  unfold rk_fl rk_up rs_r1
  by_cases ho : o' = o
  · subst ho
    by_cases h12 : t' = 12
    · subst h12
      simp
      repeat' split
      all_goals first | rfl | omega
    by_cases h14 : t' = 14
    · subst h14
      simp
      repeat' split
      all_goals first | rfl | omega
    by_cases h16 : t' = 16
    · subst h16
      simp
      repeat' split
      all_goals first | rfl | omega
    simp [h12, h14, h16]
  · simp [ho]
def pr_se_reopen (M : rk_M) (o sk ju : Int) : Prop := True
def po_se_reopen (M : rk_M) (o sk ju : Int) (z : rk_Z) (M' : rk_M) : Prop := z = .inl none ∧ M' = rs_ro M o sk ju
def pp_se_reopen (as : List rk_V) (M : rk_M) : Prop := as = [rk_r 10 (rk_ao as) 0, rk_i (rk_ai as 1), rk_i (rk_ai as 2)] ∧ pr_se_reopen M (rk_ao as) (rk_ai as 1) (rk_ai as 2)
def qq_se_reopen (as : List rk_V) (M : rk_M) (z : rk_Z) (M' : rk_M) : Prop := po_se_reopen M (rk_ao as) (rk_ai as 1) (rk_ai as 2) z M'
set_option maxHeartbeats 1000000 in
set_option maxRecDepth 20000 in
theorem c_se_reopen (l : Launch) : rk_Sp l rk_cs yn_se_reopen (.code yn_se_reopen prog_3_method_2_code 4 none) 1 pp_se_reopen qq_se_reopen 0 := by
  refine rk_mk (kc := kc_se_reopen) (ft := ft_se) (ca := [(2 * 50 + 1, (2, pp_jd_fill, qq_jd_fill, 0))]) (th := []) (stops := [17, 47]) (rt := 0) ck_se_reopen ftc_se (List.forall_mem_cons.mpr ⟨rk_ckS (n := 2) (c_jd_fill l) ww_jd_fill lk_se_50 (by decide) (by decide) (by decide) (by decide +kernel), fun _ h => absurd h List.not_mem_nil⟩) (fun _ h => absurd h List.not_mem_nil) (Or.inl ⟨rfl, rfl⟩) (by decide +kernel) (fun as M h => by rw [h.1]; exact ⟨Nat.le_of_ble_eq_true rfl, rk_nlok rfl⟩) ?_
  intro L as M G hp hrg hG
  obtain ⟨has, hP⟩ := hp
  generalize rk_ao as = o at has hP
  generalize rk_ai as 1 = sk at has hP
  generalize rk_ai as 2 = ju at has hP
  subst has
  have lp2 := rk_loop (P := fun i => G (rs_r1 M o sk ju 10 i) 47 [rk_r 10 o 0, rk_i sk, rk_i ju, rk_i i] [] 0) 9 ?_ 0 (Nat.zero_le _)
  have lp1 := rk_loop (P := fun i => G (rs_r1 M o sk ju i 0) 17 [rk_r 10 o 0, rk_i sk, rk_i ju, rk_i i] [] 0) 10 ?_ 0 (Nat.zero_le _)
  · refine hG 20 _ _ _ _ _ rfl ?_
    refine And.intro (Or.inl rfl) (rk_gto lp1 ?_ rfl rfl)
    funext t' o' r' i
    unfold rk_up rs_r1
    repeat' split
    all_goals first | rfl | omega
  · intro i hi hn
    refine hG 30 _ _ _ _ _ rfl ?_
    refine And.intro ?_ ?_
    · intro h
      refine rk_gto lp2 ?_ rfl rfl
      rw [show (i : Int) = 10 by omega]; rfl
    · intro h
      refine And.intro ?_ ?_
      · intro h1
        refine And.intro (And.intro (by omega) (by show (i : Int) < 10; omega)) (And.intro (Or.inl rfl) (And.intro (And.intro (by omega) (by omega)) ?_))
        refine rk_gto (hn (by omega)) ?_ rfl rfl
        funext t' o' r' p
        unfold rk_up rs_r1
        repeat' split
        all_goals first | rfl | omega
      · intro h1
        refine And.intro (And.intro (by omega) (by show (i : Int) < 10; omega)) (And.intro (Or.inr rfl) (And.intro (And.intro (by omega) (by omega)) ?_))
        refine rk_gto (hn (by omega)) ?_ rfl rfl
        funext t' o' r' p
        unfold rk_up rs_r1
        repeat' split
        all_goals first | rfl | omega
  · intro i hi hn
    refine hG 30 _ _ _ _ _ rfl ?_
    refine And.intro ?_ ?_
    · intro h
      refine And.intro (And.intro (by decide) (by decide)) (And.intro (show pp_jd_fill [rk_r 18 o 0, rk_i 0] _ from ⟨18, o, 0, 0, rfl, by omega⟩) (And.intro (Nat.le_refl _) ?_))
      intro z M1 hq
      obtain ⟨t1, o1, r1, v1, h1, hz, hM⟩ := hq
      cases h1
      subst hz; subst hM
      refine And.intro (And.intro (by decide) (by decide)) (And.intro (show pp_jd_fill [rk_r 18 o 1, rk_i 0] _ from ⟨18, o, 1, 0, rfl, by omega⟩) (And.intro (Nat.le_refl _) ?_))
      intro z M1 hq
      obtain ⟨t1, o1, r1, v1, h1, hz, hM⟩ := hq
      cases h1
      subst hz; subst hM
      refine And.intro rfl (And.intro (And.intro rfl ?_) (Nat.le_refl _))
      show _ = rs_ro M o sk ju
      funext t' o' r' p
      unfold rk_fl rs_r1 rs_ro
      repeat' split
      all_goals first | rfl | omega
    · intro h
      refine And.intro (And.intro (by omega) (by show (i : Int) < 9; omega)) (And.intro (Or.inl rfl) ?_)
      refine And.intro (And.intro (by omega) (by show (i : Int) < 9; omega)) (And.intro (show pp_jd_fill [rk_r 14 o i, rk_i (-1)] _ from ⟨14, o, i, -1, rfl, by omega⟩) (And.intro (Nat.le_refl _) ?_))
      intro z M1 hq
      obtain ⟨t1, o1, r1, v1, h1, hz, hM⟩ := hq
      cases h1
      subst hz; subst hM
      refine And.intro (And.intro (by omega) (by show (i : Int) < 9; omega)) (And.intro (show pp_jd_fill [rk_r 16 o i, rk_i (-1)] _ from ⟨16, o, i, -1, rfl, by omega⟩) (And.intro (Nat.le_refl _) ?_))
      intro z M1 hq
      obtain ⟨t1, o1, r1, v1, h1, hz, hM⟩ := hq
      cases h1
      subst hz; subst hM
      refine And.intro (And.intro (by omega) (by omega)) ?_
      refine rk_gto (hn (by omega)) ?_ rfl rfl
      exact rs_r1_s M o sk ju i
end
section
/-! The reference's memory seen as the class's: what was told of a segment -/
def rs_a6 (M M1 : rk_M) : Prop := ∀ t o' r i, (t = 10 ∨ t = 11 ∨ t = 12 ∨ t = 14 ∨ t = 16 ∨ t = 18) → M1 t o' r i = M t o' r i
theorem rs_a6.ok {M M1 : rk_M} {o : Int} (h : rs_a6 M M1) (hk : rs_ok M o) : rs_ok M1 o := by
  obtain ⟨h0, h1, h2, h3, h4, h5⟩ := hk
  have e3 : M1 10 o 0 3 = M 10 o 0 3 := h _ _ _ _ (by omega)
  have e4 : M1 10 o 0 4 = M 10 o 0 4 := h _ _ _ _ (by omega)
  refine ⟨by rw [e3]; exact h0, by rw [e3]; exact h1, by rw [e4]; exact h2, by rw [e4]; exact h3, fun j k a b c d => ?_, fun k c d => ?_⟩
  · rw [h 14 o j k (by omega), h 16 o j k (by omega)]; exact h4 j k a b c d
  · rw [h 18 o 0 k (by omega), h 18 o 1 k (by omega)]; exact h5 k c d
theorem rs_a6.w {M M1 : rk_M} {o : Int} (h : rs_a6 M M1) (j k : Int) : rs_w M1 o j k = rs_w M o j k := by
  unfold rs_w
  rw [h 14 o j k (by omega), h 16 o j k (by omega), rs_wo_congr (h 18 o 0 k (by omega)) (h 18 o 1 k (by omega)) (h 10 o 0 0 (by omega))]
theorem rs_a6.od {M M1 : rk_M} {o : Int} (h : rs_a6 M M1) (j k : Int) : rs_od M1 o j k = rs_od M o j k := by
  unfold rs_od
  rw [h 10 o 0 3 (by omega)]
  congr 1
  exact rk_ct_congr _ (fun p _ => by rw [h 11 o 0 p (by omega), h.w, h.w])
theorem rs_a6.pan {M M1 : rk_M} {o : Int} (h : rs_a6 M M1) (n : Nat) : rs_pan M1 o n = rs_pan M o n := rk_ct_congr _ (fun p _ => by rw [h 12 o 0 p (by omega)])
theorem rs_a6.bad {M M1 : rk_M} {o : Int} (h : rs_a6 M M1) (j : Int) (n : Nat) : rs_bad M1 o j n = rs_bad M o j n := rk_ct_congr _ (fun p _ => by rw [h 11 o 0 p (by omega), h 14 o j p (by omega)])
theorem rs_a6.sta {M M1 : rk_M} {o : Int} (h : rs_a6 M M1) (n : Nat) : rs_sta M1 o n = rs_sta M o n := rk_ct_congr _ (fun p _ => by rw [h 11 o 0 p (by omega)])
theorem rs_a6.inc {M M1 : rk_M} {o : Int} (h : rs_a6 M M1) (n : Nat) : rs_inc M1 o n = rs_inc M o n := rk_ct_congr _ (fun p _ => by rw [h 12 o 0 p (by omega), h 10 o 0 3 (by omega), h.bad])
theorem rs_a6.com {M M1 : rk_M} {o : Int} (h : rs_a6 M M1) : rs_com M1 o = rs_com M o := by
  apply rs_com_congr
  unfold rs_cpl
  rw [h 10 o 0 3 (by omega), h 10 o 0 4 (by omega), h.inc, h.sta]
theorem rs_a6.c {M M1 : rk_M} {o : Int} (h : rs_a6 M M1) (lim k : Int) : rf_c M1 o lim k = rf_c M o lim k := by
  unfold rf_c
  rw [h 10 o 0 4 (by omega)]
  exact rk_ct_congr _ (fun p _ => by rw [h 12 o 0 p (by omega), h.od])
theorem rs_a6.s {M M1 : rk_M} {o : Int} (h : rs_a6 M M1) (lim k : Int) : rf_s M1 o lim k = rf_s M o lim k := by
  unfold rf_s
  rw [h 10 o 0 4 (by omega)]
  exact rk_sm_congr _ (fun p _ => by rw [h 12 o 0 p (by omega), h.od])
theorem rs_a6.m {M M1 : rk_M} {o : Int} (h : rs_a6 M M1) (k : Int) : rf_m M1 o k = rf_m M o k := by
  unfold rf_m
  rw [h 10 o 0 4 (by omega), h 10 o 0 3 (by omega), h.pan]
  exact rk_mjf_congr (fun m => h.c m k) _ _ _
theorem rs_a6.g {M M1 : rk_M} {o : Int} (h : rs_a6 M M1) (w k : Int) : rf_g M1 o w k = rf_g M o w k := by
  unfold rf_g
  rw [h.m, h.c, h.s, h.s, h 10 o 0 3 (by omega)]
theorem rs_a6.pl {M M1 : rk_M} {o : Int} (h : rs_a6 M M1) (k : Int) : rf_pl M1 o k = rf_pl M o k := by
  unfold rf_pl
  rw [h 10 o 0 3 (by omega)]
  congr 1
  refine rk_sm_congr _ (fun p _ => rs_cn_congr ?_ ?_ ?_)
  · rw [rf_M_11, rf_M_11]; exact h _ _ _ _ (by omega)
  · intro w _ _; rw [rf_M_23, rf_M_23]; exact h.g w p
  · intro w _ _; rw [rf_M_23, rf_M_23]; exact h.g w k
theorem rs_a6.la {M M1 : rk_M} {o : Int} (h : rs_a6 M M1) : ∀ n : Nat, rs_la M1 o n = rs_la M o n
  | 0 => rfl
  | n + 1 => by unfold rs_la; rw [h 12 o 0 n (by omega), h.la n]
theorem rs_a6.bst {M M1 : rk_M} {o k sum : Int} (h : rs_a6 M M1) : rs_bst M1 o k sum = rs_bst M o k sum := rs_bst_congr (h _ _ _ _ (by omega)) (h _ _ _ _ (by omega)) (h _ _ _ _ (by omega))
theorem rs_a6.mk {M M1 : rk_M} (h : rs_a6 M M1) (o j k sum : Int) : rs_a6 (rs_mk M o j k sum) (rs_mk M1 o j k sum) := by
  intro t o' r i hn
  unfold rs_mk
  rw [h.bst]
  unfold rk_up
  rw [h t o' r i hn]
theorem rs_a6.rc {M M1 : rk_M} (h : rs_a6 M M1) (o j k sum pl : Int) : rs_rc M1 o j k sum pl = rs_rc M o j k sum pl := by
  unfold rs_rc
  rw [(h.mk o j k sum).com, (h.mk o j k sum).pl]
theorem rs_a6.ls {M M1 : rk_M} (h : rs_a6 M M1) (o k pl : Int) : rs_ls M1 o k pl = rs_ls M o k pl := by
  unfold rs_ls
  rw [h 10 o 0 4 (by omega), h.la]
  have e : (fun s => rs_rc M1 o (rs_la M o (M 10 o 0 4).toNat) k s pl) = (fun s => rs_rc M o (rs_la M o (M 10 o 0 4).toNat) k s pl) := funext (fun s => h.rc _ _ _ _ _)
  rw [e]
theorem rk_ct_lt {f : Int → Prop} {h : ∀ j, Decidable (f j)} {k : Nat} (hk : ¬ f k) : ∀ n : Nat, k < n → rk_ct f h n ≤ n - 1
  | 0, q => absurd q (Nat.not_lt_zero _)
  | n + 1, q => by
    by_cases e : k = n
    · subst e
      rw [rk_ct_f hk]
      have := (rk_ct_b f h k).2
      omega
    · have ih := rk_ct_lt (h := h) hk n (by omega)
      by_cases hc : f n
      · rw [rk_ct_t hc]; omega
      · rw [rk_ct_f hc]; omega
theorem rs_od_le (M : rk_M) (o j k : Int) (h0 : 0 ≤ k) (h1 : k < M 10 o 0 3) : rs_od M o j k ≤ M 10 o 0 3 := by
  have h := rk_ct_lt (f := fun p => M 11 o 0 p ≠ 0 ∧ rs_w M o j k < rs_w M o j p) (h := fun _ => inferInstance) (k := k.toNat) (by rw [show ((k.toNat : Nat) : Int) = k by omega]; exact fun q => absurd q.2 (Int.lt_irrefl _)) (M 10 o 0 3).toNat (by omega)
  change rs_bt M o j k (M 10 o 0 3).toNat ≤ (((M 10 o 0 3).toNat : Nat) : Int) - 1 at h
  unfold rs_od
  omega
/-- the reference's memory, seen as the class's -/
def vw (M : rk_M) : rk_M := fun t o r i =>
  if t = 10 then (if 0 ≤ o ∧ o < 3 ∧ r = 0 ∧ 0 ≤ i ∧ i < 5 then (if i = 0 then M 36 0 0 o else if i = 1 then M 37 0 0 o else if i = 2 then M 38 0 0 o else if i = 3 then M 30 0 0 1 else M 30 0 0 2) else M t o r i)
  else if t = 11 then (if 0 ≤ o ∧ o < 3 ∧ r = 0 ∧ 0 ≤ i ∧ i < 10 then (if i < M 30 0 0 1 ∧ o < M 39 0 0 i then 1 else 0) else M t o r i)
  else if t = 12 then (if 0 ≤ o ∧ o < 3 ∧ r = 0 ∧ 0 ≤ i ∧ i < 9 then M 35 0 0 (9 * o + i) else M t o r i)
  else if t = 14 then (if 0 ≤ o ∧ o < 3 ∧ 0 ≤ r ∧ r < 9 ∧ 0 ≤ i ∧ i < 10 then (if M 31 0 0 (10 * (9 * o + r) + i) ≠ 0 then M 32 0 0 (10 * (9 * o + r) + i) else -1) else M t o r i)
  else if t = 16 then (if 0 ≤ o ∧ o < 3 ∧ 0 ≤ r ∧ r < 9 ∧ 0 ≤ i ∧ i < 10 then (if M 31 0 0 (10 * (9 * o + r) + i) ≠ 0 then M 33 0 0 (10 * (9 * o + r) + i) else -1) else M t o r i)
  else if t = 18 then (if 0 ≤ o ∧ o < 3 ∧ 0 ≤ r ∧ r < 2 ∧ 0 ≤ i ∧ i < 10 then M 34 0 0 (2 * (10 * o + i) + r) else M t o r i)
  else 0
theorem vw_kd {M : rk_M} {o : Int} (h : 0 ≤ o ∧ o < 3) : vw M 10 o 0 0 = M 36 0 0 o := by simp [vw, h]
theorem vw_fa {M : rk_M} {o : Int} (h : 0 ≤ o ∧ o < 3) : vw M 10 o 0 1 = M 37 0 0 o := by simp [vw, h]
theorem vw_pu {M : rk_M} {o : Int} (h : 0 ≤ o ∧ o < 3) : vw M 10 o 0 2 = M 38 0 0 o := by simp [vw, h]
theorem vw_sk {M : rk_M} {o : Int} (h : 0 ≤ o ∧ o < 3) : vw M 10 o 0 3 = M 30 0 0 1 := by simp [vw, h]
theorem vw_ju {M : rk_M} {o : Int} (h : 0 ≤ o ∧ o < 3) : vw M 10 o 0 4 = M 30 0 0 2 := by simp [vw, h]
theorem vw_st {M : rk_M} {o i : Int} (h : 0 ≤ o ∧ o < 3) (hi : 0 ≤ i ∧ i < 10) : vw M 11 o 0 i = if i < M 30 0 0 1 ∧ o < M 39 0 0 i then 1 else 0 := by simp [vw, h, hi]
theorem vw_sr {M : rk_M} {o i : Int} (h : 0 ≤ o ∧ o < 3) (hi : 0 ≤ i ∧ i < 9) : vw M 12 o 0 i = M 35 0 0 (9 * o + i) := by simp [vw, h, hi]
theorem vw_f1 {M : rk_M} {o j i : Int} (h : 0 ≤ o ∧ o < 3) (hj : 0 ≤ j ∧ j < 9) (hi : 0 ≤ i ∧ i < 10) : vw M 14 o j i = if M 31 0 0 (10 * (9 * o + j) + i) ≠ 0 then M 32 0 0 (10 * (9 * o + j) + i) else -1 := by simp [vw, h, hj, hi]
theorem vw_f2 {M : rk_M} {o j i : Int} (h : 0 ≤ o ∧ o < 3) (hj : 0 ≤ j ∧ j < 9) (hi : 0 ≤ i ∧ i < 10) : vw M 16 o j i = if M 31 0 0 (10 * (9 * o + j) + i) ≠ 0 then M 33 0 0 (10 * (9 * o + j) + i) else -1 := by simp [vw, h, hj, hi]
theorem vw_de {M : rk_M} {o w i : Int} (h : 0 ≤ o ∧ o < 3) (hw : 0 ≤ w ∧ w < 2) (hi : 0 ≤ i ∧ i < 10) : vw M 18 o w i = M 34 0 0 (2 * (10 * o + i) + w) := by simp [vw, h, hw, hi]
theorem vw_congr {M M1 : rk_M} (h : ∀ t o r i, t < 40 → ¬ (t = 30 ∧ (i = 0 ∨ i = 14 ∨ i = 17)) → M1 t o r i = M t o r i) : vw M1 = vw M := by
  have e : ∀ t o r i, (t = 10 ∨ t = 11 ∨ t = 12 ∨ t = 14 ∨ t = 16 ∨ t = 18 ∨ (31 ≤ t ∧ t < 40)) → M1 t o r i = M t o r i := fun t o r i q => h t o r i (by omega) (by omega)
  have e1 : M1 30 0 0 1 = M 30 0 0 1 := h _ _ _ _ (by omega) (by omega)
  have e2 : M1 30 0 0 2 = M 30 0 0 2 := h _ _ _ _ (by omega) (by omega)
  funext t o r i
  unfold vw
  rw [e1, e2, e 36 _ _ _ (by omega), e 37 _ _ _ (by omega), e 38 _ _ _ (by omega), e 39 _ _ _ (by omega), e 35 _ _ _ (by omega), e 31 _ _ _ (by omega), e 32 _ _ _ (by omega), e 33 _ _ _ (by omega), e 34 _ _ _ (by omega)]
  by_cases ht : t = 10 ∨ t = 11 ∨ t = 12 ∨ t = 14 ∨ t = 16 ∨ t = 18
  · rw [e t o r i (by omega)]
  · have n10 : t ≠ 10 := by omega
    have n11 : t ≠ 11 := by omega
    have n12 : t ≠ 12 := by omega
    have n14 : t ≠ 14 := by omega
    have n16 : t ≠ 16 := by omega
    have n18 : t ≠ 18 := by omega
    simp [n10, n11, n12, n14, n16, n18]
/-- what the reference holds is within its bounds, at a segment -/
def mv (M : rk_M) (s : Int) : Prop := (0 ≤ s ∧ s < 3) ∧ rs_ok (vw M) s ∧ (∀ n, 0 ≤ n → n < 270 → (M 31 0 0 n = 0 → M 32 0 0 n = 0 ∧ M 33 0 0 n = 0) ∧ (M 31 0 0 n ≠ 0 → M 31 0 0 n = 1 ∧ 0 ≤ M 32 0 0 n ∧ 0 ≤ M 33 0 0 n))
theorem mv.sk {M : rk_M} {s : Int} (h : mv M s) : 0 ≤ M 30 0 0 1 ∧ M 30 0 0 1 ≤ 10 := by
  have a := h.2.1.1
  have b := h.2.1.2.1
  rw [vw_sk h.1] at a b
  exact ⟨a, b⟩
theorem mv.ju {M : rk_M} {s : Int} (h : mv M s) : 0 ≤ M 30 0 0 2 ∧ M 30 0 0 2 ≤ 9 := by
  have a := h.2.1.2.2.1
  have b := h.2.1.2.2.2.1
  rw [vw_ju h.1] at a b
  exact ⟨a, b⟩
theorem mv.congr {M M1 : rk_M} {s : Int} (h : mv M s) (e : ∀ t o r i, t < 40 → ¬ (t = 30 ∧ (i = 0 ∨ i = 14 ∨ i = 17)) → M1 t o r i = M t o r i) : mv M1 s := by
  refine ⟨h.1, by rw [vw_congr e]; exact h.2.1, ?_⟩
  intro n h0 h1
  rw [e 31 0 0 n (by omega) (by omega), e 32 0 0 n (by omega) (by omega), e 33 0 0 n (by omega) (by omega)]
  exact h.2.2 n h0 h1
/-- a net number -/
def mo_ls (v b : Int) : Int := if b < v then v - b else 0
theorem mo_nt1 {M : rk_M} {s j k : Int} (h : mv M s) (hj : 0 ≤ j ∧ j < 9) (hk : 0 ≤ k ∧ k < 10) : rs_nt (vw M 14 s j k - vw M 18 s 0 k) = mo_ls (M 32 0 0 (10 * (9 * s + j) + k)) (M 34 0 0 (2 * (10 * s + k))) ∧ 0 ≤ mo_ls (M 32 0 0 (10 * (9 * s + j) + k)) (M 34 0 0 (2 * (10 * s + k))) ∧ mo_ls (M 32 0 0 (10 * (9 * s + j) + k)) (M 34 0 0 (2 * (10 * s + k))) ≤ 60 ∧ 0 ≤ M 34 0 0 (2 * (10 * s + k)) ∧ 0 ≤ M 32 0 0 (10 * (9 * s + j) + k) ∧ M 32 0 0 (10 * (9 * s + j) + k) ≤ 60 := by
  have hs := h.1
  have h5 := (h.2.1.2.2.2.2.2 k hk.1 hk.2)
  have h4 := (h.2.1.2.2.2.2.1 j k hj.1 hj.2 hk.1 hk.2)
  have hh := h.2.2 (10 * (9 * s + j) + k) (by omega) (by omega)
  rw [vw_de hs (by omega) hk, Int.add_zero] at h5 ⊢
  rw [vw_f1 hs hj hk] at h4 ⊢
  unfold rs_nt mo_ls
  by_cases hc : M 31 0 0 (10 * (9 * s + j) + k) = 0
  · have := hh.1 hc
    rw [if_neg (by omega)] at h4 ⊢
    repeat' split
    all_goals omega
  · have := hh.2 hc
    rw [if_pos hc] at h4 ⊢
    repeat' split
    all_goals omega
theorem mo_nt2 {M : rk_M} {s j k : Int} (h : mv M s) (hj : 0 ≤ j ∧ j < 9) (hk : 0 ≤ k ∧ k < 10) : rs_nt (vw M 16 s j k - vw M 18 s 1 k) = mo_ls (M 33 0 0 (10 * (9 * s + j) + k)) (M 34 0 0 (2 * (10 * s + k) + 1)) ∧ 0 ≤ mo_ls (M 33 0 0 (10 * (9 * s + j) + k)) (M 34 0 0 (2 * (10 * s + k) + 1)) ∧ mo_ls (M 33 0 0 (10 * (9 * s + j) + k)) (M 34 0 0 (2 * (10 * s + k) + 1)) ≤ 60 ∧ 0 ≤ M 34 0 0 (2 * (10 * s + k) + 1) ∧ 0 ≤ M 33 0 0 (10 * (9 * s + j) + k) ∧ M 33 0 0 (10 * (9 * s + j) + k) ≤ 60 := by
  have hs := h.1
  have h5 := (h.2.1.2.2.2.2.2 k hk.1 hk.2)
  have h4 := (h.2.1.2.2.2.2.1 j k hj.1 hj.2 hk.1 hk.2)
  have hh := h.2.2 (10 * (9 * s + j) + k) (by omega) (by omega)
  rw [vw_de (w := 1) hs (by omega) hk] at h5 ⊢
  rw [vw_f2 hs hj hk] at h4 ⊢
  unfold rs_nt mo_ls
  by_cases hc : M 31 0 0 (10 * (9 * s + j) + k) = 0
  · have := hh.1 hc
    rw [if_neg (by omega)] at h4 ⊢
    repeat' split
    all_goals omega
  · have := hh.2 hc
    rw [if_pos hc] at h4 ⊢
    repeat' split
    all_goals omega
end
section
/-! Contracts of the reference: a judge's ordinals -/
theorem mo_st {M : rk_M} {s i : Int} (h : 0 ≤ s ∧ s < 3) (hi : 0 ≤ i ∧ i < 10) : (if i < M 30 0 0 1 ∧ s < M 39 0 0 i then (1 : Int) else 0) = vw M 11 s 0 i := (vw_st h hi).symm
def pr_mo_isBetter (M : rk_M) (s j a b : Int) : Prop := mv M s ∧ 0 ≤ j ∧ j < 9 ∧ 0 ≤ a ∧ a < 10 ∧ 0 ≤ b ∧ b < 10
def po_mo_isBetter (M : rk_M) (s j a b : Int) (z : rk_Z) (M' : rk_M) : Prop := z = rk_one (if rs_w (vw M) s j b < rs_w (vw M) s j a then 1 else 0) ∧ M' = M
def pp_mo_isBetter (as : List rk_V) (M : rk_M) : Prop := as = [rk_r 30 0 0, rk_i (rk_ai as 1), rk_i (rk_ai as 2), rk_i (rk_ai as 3), rk_i (rk_ai as 4)] ∧ pr_mo_isBetter M (rk_ai as 1) (rk_ai as 2) (rk_ai as 3) (rk_ai as 4)
def qq_mo_isBetter (as : List rk_V) (M : rk_M) (z : rk_Z) (M' : rk_M) : Prop := po_mo_isBetter M (rk_ai as 1) (rk_ai as 2) (rk_ai as 3) (rk_ai as 4) z M'
set_option maxHeartbeats 1000000 in
set_option maxRecDepth 20000 in
theorem c_mo_isBetter (l : Launch) : rk_Sp l rk_cs yn_mo_isBetter (.code yn_mo_isBetter prog_5_method_19_code 13 (some .boolean)) 1 pp_mo_isBetter qq_mo_isBetter 0 := by
  refine rk_mk (kc := kc_mo_isBetter) (ft := ft_mo) (ca := [(2 * 90, (3, pp_mo_lessened, qq_mo_lessened, 0))]) (th := []) (stops := []) (rt := 2) ck_mo_isBetter ftc_mo (List.forall_mem_cons.mpr ⟨rk_ckV (n := 2) (c_mo_lessened l) ww_mo_lessened lk_mo_90 (by decide) (by decide) (by decide) (by decide +kernel) (fun as M h => ⟨_, _, _, _, h.1, rk_rcv_mo⟩), fun _ h => absurd h List.not_mem_nil⟩) (fun _ h => absurd h List.not_mem_nil) (Or.inr (Or.inr (Or.inl ⟨rfl, rfl⟩))) (by decide +kernel) (fun as M h => by rw [h.1]; exact ⟨Nat.le_of_ble_eq_true rfl, rk_nlok rfl⟩) ?_
  intro L as M G hp hrg hG
  obtain ⟨has, hP⟩ := hp
  generalize rk_ai as 1 = s at has hP
  generalize rk_ai as 2 = j at has hP
  generalize rk_ai as 3 = a at has hP
  generalize rk_ai as 4 = b at has hP
  subst has
  obtain ⟨hm, hj0, hj1, ha0, ha1, hb0, hb1⟩ := hP
  have hs := hm.1
  obtain ⟨p1, p2, p3, p4, p5, p6⟩ := mo_nt1 hm ⟨hj0, hj1⟩ ⟨ha0, ha1⟩
  obtain ⟨q1, q2, q3, q4, q5, q6⟩ := mo_nt1 hm ⟨hj0, hj1⟩ ⟨hb0, hb1⟩
  obtain ⟨u1, u2, u3, u4, u5, u6⟩ := mo_nt2 hm ⟨hj0, hj1⟩ ⟨ha0, ha1⟩
  obtain ⟨v1, v2, v3, v4, v5, v6⟩ := mo_nt2 hm ⟨hj0, hj1⟩ ⟨hb0, hb1⟩
  refine hG 200 _ _ _ _ _ rfl ?_
  refine And.intro (And.intro (by omega) (by omega)) ?_
  refine And.intro (And.intro (by omega) (by omega)) ?_
  refine And.intro (And.intro (by omega) (by omega)) ?_
  refine And.intro (And.intro (by omega) (by omega)) ?_
  refine And.intro (And.intro (by omega) (by omega)) ?_
  refine And.intro (And.intro (by omega) (by omega)) ?_
  refine And.intro (And.intro (by omega) (by omega)) ?_
  refine And.intro (And.intro (by omega) (by omega)) ?_
  refine And.intro (And.intro (by omega) (by omega)) ?_
  refine And.intro (And.intro (by omega) (by omega)) ?_
  refine And.intro (And.intro (by omega) (by omega)) ?_
  refine And.intro (And.intro (by omega) (by omega)) ?_
  refine And.intro (And.intro (by omega) (by omega)) ?_
  refine And.intro (And.intro (by omega) (by omega)) ?_
  refine And.intro (And.intro (by omega) (by show _ < (270 : Int); omega)) ?_
  refine And.intro (And.intro (by omega) (by show _ < (60 : Int); omega)) ?_
  refine And.intro (And.intro rfl (show pr_mo_lessened M (M 32 0 0 (10 * (9 * s + j) + a)) (M 34 0 0 (2 * (10 * s + a))) from ⟨p4, by omega, by omega⟩)) (And.intro (Nat.le_refl _) ?_)
  intro z Mz hq
  have hz : z = rk_one (mo_ls (M 32 0 0 (10 * (9 * s + j) + a)) (M 34 0 0 (2 * (10 * s + a)))) := hq.1
  have hM : Mz = M := hq.2
  subst z Mz
  clear hq
  refine And.intro (And.intro (by omega) (by show _ < (270 : Int); omega)) ?_
  refine And.intro (And.intro (by omega) (by show _ < (60 : Int); omega)) ?_
  refine And.intro (And.intro rfl (show pr_mo_lessened M (M 32 0 0 (10 * (9 * s + j) + b)) (M 34 0 0 (2 * (10 * s + b))) from ⟨q4, by omega, by omega⟩)) (And.intro (Nat.le_refl _) ?_)
  intro z Mz hq
  have hz : z = rk_one (mo_ls (M 32 0 0 (10 * (9 * s + j) + b)) (M 34 0 0 (2 * (10 * s + b)))) := hq.1
  have hM : Mz = M := hq.2
  subst z Mz
  clear hq
  refine And.intro (And.intro (by omega) (by show _ < (270 : Int); omega)) ?_
  refine And.intro (And.intro (by omega) (by omega)) ?_
  refine And.intro (And.intro (by omega) (by show _ < (60 : Int); omega)) ?_
  refine And.intro (And.intro rfl (show pr_mo_lessened M (M 33 0 0 (10 * (9 * s + j) + a)) (M 34 0 0 (2 * (10 * s + a) + 1)) from ⟨u4, by omega, by omega⟩)) (And.intro (Nat.le_refl _) ?_)
  intro z Mz hq
  have hz : z = rk_one (mo_ls (M 33 0 0 (10 * (9 * s + j) + a)) (M 34 0 0 (2 * (10 * s + a) + 1))) := hq.1
  have hM : Mz = M := hq.2
  subst z Mz
  clear hq
  refine And.intro (And.intro (by omega) (by omega)) ?_
  refine And.intro (And.intro (by omega) (by show _ < (270 : Int); omega)) ?_
  refine And.intro (And.intro (by omega) (by omega)) ?_
  refine And.intro (And.intro (by omega) (by show _ < (60 : Int); omega)) ?_
  refine And.intro (And.intro rfl (show pr_mo_lessened M (M 33 0 0 (10 * (9 * s + j) + b)) (M 34 0 0 (2 * (10 * s + b) + 1)) from ⟨v4, by omega, by omega⟩)) (And.intro (Nat.le_refl _) ?_)
  intro z Mz hq
  have hz : z = rk_one (mo_ls (M 33 0 0 (10 * (9 * s + j) + b)) (M 34 0 0 (2 * (10 * s + b) + 1))) := hq.1
  have hM : Mz = M := hq.2
  subst z Mz
  clear hq
  refine And.intro (And.intro (by omega) (by omega)) ?_
  have ea : rs_w (vw M) s j a = (mo_ls (M 32 0 0 (10 * (9 * s + j) + a)) (M 34 0 0 (2 * (10 * s + a))) + mo_ls (M 33 0 0 (10 * (9 * s + j) + a)) (M 34 0 0 (2 * (10 * s + a) + 1))) * 61 + (if M 36 0 0 s = 0 then mo_ls (M 32 0 0 (10 * (9 * s + j) + a)) (M 34 0 0 (2 * (10 * s + a))) else mo_ls (M 33 0 0 (10 * (9 * s + j) + a)) (M 34 0 0 (2 * (10 * s + a) + 1))) := by
    unfold rs_w rs_wo
    rw [p1, u1, vw_kd hs]
  have eb : rs_w (vw M) s j b = (mo_ls (M 32 0 0 (10 * (9 * s + j) + b)) (M 34 0 0 (2 * (10 * s + b))) + mo_ls (M 33 0 0 (10 * (9 * s + j) + b)) (M 34 0 0 (2 * (10 * s + b) + 1))) * 61 + (if M 36 0 0 s = 0 then mo_ls (M 32 0 0 (10 * (9 * s + j) + b)) (M 34 0 0 (2 * (10 * s + b))) else mo_ls (M 33 0 0 (10 * (9 * s + j) + b)) (M 34 0 0 (2 * (10 * s + b) + 1))) := by
    unfold rs_w rs_wo
    rw [q1, v1, vw_kd hs]
  clear p1 q1 u1 v1 p4 p5 p6 q4 q5 q6 u4 u5 u6 v4 v5 v6
  generalize mo_ls (M 32 0 0 (10 * (9 * s + j) + a)) (M 34 0 0 (2 * (10 * s + a))) = fa at *
  generalize mo_ls (M 32 0 0 (10 * (9 * s + j) + b)) (M 34 0 0 (2 * (10 * s + b))) = fb at *
  generalize mo_ls (M 33 0 0 (10 * (9 * s + j) + a)) (M 34 0 0 (2 * (10 * s + a) + 1)) = sa at *
  generalize mo_ls (M 33 0 0 (10 * (9 * s + j) + b)) (M 34 0 0 (2 * (10 * s + b) + 1)) = sb at *
  have fin : ∀ x : Int, ((x = 1 ∧ rs_w (vw M) s j b < rs_w (vw M) s j a) ∨ (x = 0 ∧ ¬ rs_w (vw M) s j b < rs_w (vw M) s j a)) → rk_one x = rk_one (if rs_w (vw M) s j b < rs_w (vw M) s j a then 1 else 0) := by
    intro x hx
    rcases hx with ⟨rfl, h⟩ | ⟨rfl, h⟩
    · rw [if_pos h]
    · rw [if_neg h]
  refine And.intro ?_ ?_
  · intro he
    refine And.intro (And.intro (by omega) (by show _ < (3 : Int); omega)) ?_
    refine And.intro ?_ ?_
    · intro hk
      rw [if_neg hk] at ea eb
      refine And.intro ?_ ?_
      · intro h1
        exact And.intro (Or.inl rfl) (And.intro (And.intro (fin 0 (Or.inr ⟨rfl, by omega⟩)) rfl) (Nat.le_refl _))
      · intro h1
        exact And.intro (Or.inr rfl) (And.intro (And.intro (fin 1 (Or.inl ⟨rfl, by omega⟩)) rfl) (Nat.le_refl _))
    · intro hk
      rw [if_pos hk] at ea eb
      refine And.intro ?_ ?_
      · intro h1
        exact And.intro (Or.inl rfl) (And.intro (And.intro (fin 0 (Or.inr ⟨rfl, by omega⟩)) rfl) (Nat.le_refl _))
      · intro h1
        exact And.intro (Or.inr rfl) (And.intro (And.intro (fin 1 (Or.inl ⟨rfl, by omega⟩)) rfl) (Nat.le_refl _))
  · intro he
    have hka : 0 ≤ (if M 36 0 0 s = 0 then fa else sa) ∧ (if M 36 0 0 s = 0 then fa else sa) ≤ 60 := by split <;> omega
    have hkb : 0 ≤ (if M 36 0 0 s = 0 then fb else sb) ∧ (if M 36 0 0 s = 0 then fb else sb) ≤ 60 := by split <;> omega
    refine And.intro ?_ ?_
    · intro h1
      exact And.intro (Or.inl rfl) (And.intro (And.intro (fin 0 (Or.inr ⟨rfl, by omega⟩)) rfl) (Nat.le_refl _))
    · intro h1
      exact And.intro (Or.inr rfl) (And.intro (And.intro (fin 1 (Or.inl ⟨rfl, by omega⟩)) rfl) (Nat.le_refl _))
def mo_al (M : rk_M) (s j : Int) (n : Nat) : Int := if rs_bad (vw M) s j n = 0 then 1 else 0
def mo_oj (M : rk_M) (s j : Int) (M' : rk_M) : Prop := (∀ t o r i, ¬ (t = 40 ∧ 10 * j ≤ i ∧ i < 10 * j + 10) → M' t o r i = M t o r i) ∧ ∀ k, 0 ≤ k → k < M 30 0 0 1 → M' 40 0 0 (10 * j + k) = if mo_al M s j (M 30 0 0 1).toNat ≠ 0 ∧ vw M 11 s 0 k ≠ 0 then rs_od (vw M) s j k else 0
def pr_mo_reckonJudge (M : rk_M) (s j : Int) : Prop := mv M s ∧ 0 ≤ j ∧ j < 9
def po_mo_reckonJudge (M : rk_M) (s j : Int) (z : rk_Z) (M' : rk_M) : Prop := z = rk_one (mo_al M s j (M 30 0 0 1).toNat) ∧ mo_oj M s j M'
def pp_mo_reckonJudge (as : List rk_V) (M : rk_M) : Prop := as = [rk_r 30 0 0, rk_i (rk_ai as 1), rk_i (rk_ai as 2)] ∧ pr_mo_reckonJudge M (rk_ai as 1) (rk_ai as 2)
def qq_mo_reckonJudge (as : List rk_V) (M : rk_M) (z : rk_Z) (M' : rk_M) : Prop := po_mo_reckonJudge M (rk_ai as 1) (rk_ai as 2) z M'
set_option maxHeartbeats 1000000 in
set_option maxRecDepth 20000 in
theorem c_mo_reckonJudge (l : Launch) : rk_Sp l rk_cs yn_mo_reckonJudge (.code yn_mo_reckonJudge prog_5_method_20_code 7 (some .boolean)) 2 pp_mo_reckonJudge qq_mo_reckonJudge 0 := by
  refine rk_mk (kc := kc_mo_reckonJudge) (ft := ft_mo) (ca := [(2 * 94, (3, pp_mo_starts, qq_mo_starts, 0)), (2 * 98, (5, pp_mo_isBetter, qq_mo_isBetter, 0))]) (th := []) (stops := [5, 63, 78]) (rt := 2) ck_mo_reckonJudge ftc_mo (List.forall_mem_cons.mpr ⟨rk_ckV (n := 2) (c_mo_starts l) ww_mo_starts lk_mo_94 (by decide) (by decide) (by decide) (by decide +kernel) (fun as M h => ⟨_, _, _, _, h.1, rk_rcv_mo⟩), List.forall_mem_cons.mpr ⟨rk_ckV (n := 4) (c_mo_isBetter l) ww_mo_isBetter lk_mo_98 (by decide) (by decide) (by decide) (by decide +kernel) (fun as M h => ⟨_, _, _, _, h.1, rk_rcv_mo⟩), fun _ h => absurd h List.not_mem_nil⟩⟩) (fun _ h => absurd h List.not_mem_nil) (Or.inr (Or.inr (Or.inl ⟨rfl, rfl⟩))) (by decide +kernel) (fun as M h => by rw [h.1]; exact ⟨Nat.le_of_ble_eq_true rfl, rk_nlok rfl⟩) ?_
  intro L as M G hp hrg hG
  obtain ⟨has, hP⟩ := hp
  generalize rk_ai as 1 = s at has hP
  generalize rk_ai as 2 = j at has hP
  subst has
  obtain ⟨hm, hj0, hj1⟩ := hP
  have hs := hm.1
  have hsk := hm.sk
  have hal : ∀ n, mo_al M s j n = 0 ∨ mo_al M s j n = 1 := fun n => by unfold mo_al; split <;> simp
  have loop2 : ∀ i : Nat, i ≤ (M 30 0 0 1).toNat → ∀ (M2 : rk_M) (x5 x6 : rk_V), (∀ t o r q, ¬ (t = 40 ∧ 10 * j ≤ q ∧ q < 10 * j + 10) → M2 t o r q = M t o r q) → (∀ k : Int, 0 ≤ k → k < i → M2 40 0 0 (10 * j + k) = if mo_al M s j (M 30 0 0 1).toNat ≠ 0 ∧ vw M 11 s 0 k ≠ 0 then rs_od (vw M) s j k else 0) →
      G M2 63 [rk_r 30 0 0, rk_i s, rk_i j, rk_i (mo_al M s j (M 30 0 0 1).toNat), rk_i i, x5, x6] [] 0 := by
    refine rk_loop (M 30 0 0 1).toNat ?_
    intro i hi hnext M2 x5 x6 hA hd
    have e1 : M2 30 0 0 1 = M 30 0 0 1 := hA _ _ _ _ (by omega)
    have hv : vw M2 = vw M := vw_congr (fun t o r q ht _ => hA t o r q (by omega))
    have hm2 : mv M2 s := hm.congr (fun t o r q ht _ => hA t o r q (by omega))
    refine hG 30 _ _ _ _ _ rfl ?_
    refine And.intro ?_ ?_
    · intro h
      have hi' : i = (M 30 0 0 1).toNat := by omega
      refine And.intro (hal _) (And.intro (And.intro rfl ?_) (Nat.le_refl _))
      show mo_oj M s j M2
      exact ⟨hA, fun k h1 h2 => hd k h1 (by omega)⟩
    · intro h
      have hin := rk_loop (P := fun p => G M2 78 [rk_r 30 0 0, rk_i s, rk_i j, rk_i (mo_al M s j (M 30 0 0 1).toNat), rk_i i, rk_i (1 + rs_bt (vw M) s j i p), rk_i p] [] 0) (M 30 0 0 1).toNat ?_ 0 (Nat.zero_le _)
      · exact hin
      intro p hp hpn
      have hb := rk_ct_b (fun p => vw M 11 s 0 p ≠ 0 ∧ rs_w (vw M) s j i < rs_w (vw M) s j p) (fun _ => inferInstance) p
      change 0 ≤ rs_bt (vw M) s j i p ∧ rs_bt (vw M) s j i p ≤ p at hb
      refine hG 60 _ _ _ _ _ rfl ?_
      refine And.intro ?_ ?_
      · intro h2
        have hp' : p = (M 30 0 0 1).toNat := by omega
        have fin : ∀ v : Int, v = (if mo_al M s j (M 30 0 0 1).toNat ≠ 0 ∧ vw M 11 s 0 i ≠ 0 then rs_od (vw M) s j i else 0) → G (rk_up M2 40 0 0 (10 * j + i) v) 63 [rk_r 30 0 0, rk_i s, rk_i j, rk_i (mo_al M s j (M 30 0 0 1).toNat), rk_i ((i : Int) + 1), rk_i (1 + rs_bt (vw M) s j i p), rk_i p] [] 0 := by
          intro v hv'
          refine rk_gto (hnext (by omega) _ _ _ ?_ ?_) rfl rfl rfl
          · intro t o r q h3
            rw [rk_up_ne (by omega)]
            exact hA t o r q h3
          · intro k h3 h4
            by_cases hk : k = i
            · subst hk
              rw [rk_up_self]; exact hv'
            · rw [rk_up_ne (by omega)]
              exact hd k h3 (by omega)
        refine And.intro (And.intro (by omega) (by omega)) ?_
        refine And.intro (And.intro (by omega) (by omega)) ?_
        refine And.intro ?_ ?_
        · intro h3
          refine And.intro (And.intro (by omega) (by show _ < (90 : Int); omega)) ?_
          refine And.intro (And.intro (by omega) (by omega)) ?_
          exact fin 0 (by rw [if_neg (by omega)])
        · intro h3
          refine And.intro (And.intro rfl (show pr_mo_starts M2 s i from ⟨by omega, by omega⟩)) (And.intro (Nat.le_refl _) ?_)
          intro z Mz hq
          have hz : z = rk_one (vw M 11 s 0 i) := hq.1.trans (congrArg rk_one ((mo_st (i := i) hs (by omega)).trans (by rw [hv])))
          have hM : Mz = M2 := hq.2
          subst z Mz
          clear hq
          refine And.intro ?_ ?_
          · intro h4
            refine And.intro (And.intro (by omega) (by show _ < (90 : Int); omega)) ?_
            refine And.intro (And.intro (by omega) (by omega)) ?_
            exact fin 0 (by rw [if_neg (fun q => q.2 h4)])
          · intro h4
            refine And.intro (And.intro (by omega) (by show _ < (90 : Int); omega)) ?_
            refine And.intro (And.intro (by omega) (by omega)) ?_
            exact fin _ (by rw [if_pos ⟨h3, h4⟩]; unfold rs_od; rw [hp', vw_sk hs])
      · intro h2
        refine And.intro (And.intro rfl (show pr_mo_starts M2 s p from ⟨by omega, by omega⟩)) (And.intro (Nat.le_refl _) ?_)
        intro z Mz hq
        have hz : z = rk_one (vw M 11 s 0 p) := hq.1.trans (congrArg rk_one ((mo_st (i := p) hs (by omega)).trans (by rw [hv])))
        have hM : Mz = M2 := hq.2
        subst z Mz
        clear hq
        refine And.intro ?_ ?_
        · intro h3
          refine And.intro (And.intro (by omega) (by omega)) ?_
          refine rk_gto (hpn (by omega)) rfl ?_ rfl
          have e : rs_bt (vw M) s j i (p + 1) = rs_bt (vw M) s j i p := rk_ct_f (fun q => q.1 h3)
          rw [e]; rfl
        · intro h3
          refine And.intro (And.intro rfl (show pr_mo_isBetter M2 s j p i from ⟨hm2, hj0, hj1, by omega, by omega, by omega, by omega⟩)) (And.intro (Nat.le_refl _) ?_)
          intro z Mz hq
          have hz : z = rk_one (if rs_w (vw M) s j i < rs_w (vw M) s j p then 1 else 0) := hq.1.trans (by rw [hv]; rfl)
          have hM : Mz = M2 := hq.2
          subst z Mz
          clear hq
          by_cases hc : rs_w (vw M) s j i < rs_w (vw M) s j p
          · rw [if_pos hc]
            refine And.intro (fun q => absurd q (by decide)) (fun _ => ?_)
            refine And.intro (And.intro (by omega) (by omega)) ?_
            refine And.intro (And.intro (by omega) (by omega)) ?_
            refine rk_gto (hpn (by omega)) rfl ?_ rfl
            have e : rs_bt (vw M) s j i (p + 1) = rs_bt (vw M) s j i p + 1 := rk_ct_t ⟨h3, hc⟩
            rw [e, ← Int.add_assoc]; rfl
          · rw [if_neg hc]
            refine And.intro (fun _ => ?_) (fun q => absurd rfl q)
            refine And.intro (And.intro (by omega) (by omega)) ?_
            refine rk_gto (hpn (by omega)) rfl ?_ rfl
            have e : rs_bt (vw M) s j i (p + 1) = rs_bt (vw M) s j i p := rk_ct_f (fun q => hc q.2)
            rw [e]; rfl
  have loop1 : ∀ i : Nat, i ≤ (M 30 0 0 1).toNat → ∀ (x5 x6 : rk_V), G M 5 [rk_r 30 0 0, rk_i s, rk_i j, rk_i (mo_al M s j i), rk_i i, x5, x6] [] 0 := by
    refine rk_loop (M 30 0 0 1).toNat ?_
    intro i hi hnext x5 x6
    have hb := rk_ct_b (fun k => vw M 11 s 0 k ≠ 0 ∧ vw M 14 s j k = -1) (fun _ => inferInstance) i
    change 0 ≤ rs_bad (vw M) s j i ∧ rs_bad (vw M) s j i ≤ i at hb
    refine hG 60 _ _ _ _ _ rfl ?_
    refine And.intro ?_ ?_
    · intro h
      have hi' : i = (M 30 0 0 1).toNat := by omega
      subst hi'
      exact rk_gto (loop2 0 (Nat.zero_le _) M x5 x6 (fun _ _ _ _ _ => rfl) (fun k _ _ => by omega)) rfl rfl rfl
    · intro h
      have f1 := vw_f1 (M := M) hs ⟨hj0, hj1⟩ (i := i) ⟨by omega, by omega⟩
      have hh := hm.2.2 (10 * (9 * s + j) + i) (by omega) (by omega)
      refine And.intro ?_ ?_
      · intro h1
        refine And.intro (And.intro (by omega) (by omega)) ?_
        refine rk_gto (hnext (by omega) x5 x6) rfl ?_ rfl
        have e : mo_al M s j (i + 1) = 0 := by
          have hne : rs_bad (vw M) s j i ≠ 0 := by
            intro q
            unfold mo_al at h1
            rw [if_pos q] at h1
            exact absurd h1 (by decide)
          have hmo : rs_bad (vw M) s j i ≤ rs_bad (vw M) s j (i + 1) := rk_ct_mono _ (by omega)
          unfold mo_al
          rw [if_neg (by omega)]
        rw [e]; rfl
      · intro h1
        have hz0 : rs_bad (vw M) s j i = 0 := by
          unfold mo_al at h1
          split at h1
          · assumption
          · exact absurd rfl h1
        have e1' : mo_al M s j i = 1 := by unfold mo_al; rw [if_pos hz0]
        refine And.intro (And.intro rfl (show pr_mo_starts M s i from ⟨by omega, by omega⟩)) (And.intro (Nat.le_refl _) ?_)
        intro z Mz hq
        have hz : z = rk_one (vw M 11 s 0 i) := hq.1.trans (congrArg rk_one (mo_st (i := i) hs (by omega)))
        have hM : Mz = M := hq.2
        subst z Mz
        clear hq
        refine And.intro ?_ ?_
        · intro h2
          refine And.intro (And.intro (by omega) (by omega)) ?_
          refine rk_gto (hnext (by omega) x5 x6) rfl ?_ rfl
          have e : rs_bad (vw M) s j (i + 1) = rs_bad (vw M) s j i := rk_ct_f (fun q => q.1 h2)
          have e2 : mo_al M s j (i + 1) = 1 := by unfold mo_al; rw [e, if_pos hz0]
          rw [e2]; rfl
        · intro h2
          refine And.intro (And.intro (by omega) (by omega)) ?_
          refine And.intro (And.intro (by omega) (by omega)) ?_
          refine And.intro (And.intro (by omega) (by omega)) ?_
          refine And.intro (And.intro (by omega) (by omega)) ?_
          refine And.intro (And.intro (by omega) (by show _ < (270 : Int); omega)) ?_
          refine And.intro ?_ ?_
          · intro h3
            refine And.intro (And.intro (by omega) (by omega)) ?_
            refine rk_gto (hnext (by omega) x5 x6) rfl ?_ rfl
            rw [if_neg (fun q => q h3)] at f1
            have e : rs_bad (vw M) s j (i + 1) = rs_bad (vw M) s j i + 1 := rk_ct_t ⟨h2, f1⟩
            have e2 : mo_al M s j (i + 1) = 0 := by unfold mo_al; rw [e, if_neg (by omega)]
            rw [e2]; rfl
          · intro h3
            refine And.intro (And.intro (by omega) (by omega)) ?_
            refine rk_gto (hnext (by omega) x5 x6) rfl ?_ rfl
            rw [if_pos h3] at f1
            have := hh.2 h3
            have e : rs_bad (vw M) s j (i + 1) = rs_bad (vw M) s j i := rk_ct_f (fun q => by have := q.2; omega)
            have e2 : mo_al M s j (i + 1) = 1 := by unfold mo_al; rw [e, if_pos hz0]
            rw [e2]; rfl
  refine hG 10 _ _ _ _ _ rfl ?_
  exact loop1 0 (Nat.zero_le _) _ _
end
section
/-! Contracts of the reference: a skater's four numbers -/
theorem rk_ct_z {f : Int → Prop} {h : ∀ j, Decidable (f j)} : ∀ n : Nat, rk_ct f h n = 0 → ∀ j : Int, 0 ≤ j → j < n → ¬ f j
  | 0, _, j, h0, h1 => by omega
  | n + 1, q, j, h0, h1 => by
    have hb := (rk_ct_b f h n).1
    by_cases hc : f n
    · rw [rk_ct_t hc] at q; omega
    · rw [rk_ct_f hc] at q
      by_cases e : j = n
      · subst e; exact hc
      · exact rk_ct_z n q j h0 (by omega)
theorem rk_sm_b {f : Int → Int} {B : Int} (h : ∀ j, 0 ≤ f j ∧ f j ≤ B) : ∀ n : Nat, 0 ≤ rk_sm f n ∧ rk_sm f n ≤ B * n
  | 0 => ⟨Int.le_refl _, by simp [rk_sm]⟩
  | n + 1 => by
    have a := rk_sm_b h n
    have b := h n
    unfold rk_sm
    rw [show ((n + 1 : Nat) : Int) = (n : Int) + 1 from rfl, Int.mul_add, Int.mul_one]
    omega
theorem mo_pn {M : rk_M} {s : Int} (hs : 0 ≤ s ∧ s < 3) (n : Nat) (hn : n ≤ 9) : rk_pan M s n = rs_pan (vw M) s n := rk_ct_congr _ (fun j hj => by rw [vw_sr hs (by omega)])
def mo_cu (M : rk_M) (s m k : Int) (n : Nat) : Int := rk_ct (fun j => vw M 12 s 0 j = 0 ∧ rs_od (vw M) s j k ≤ m) (fun _ => inferInstance) n
def mo_su (M : rk_M) (s m k : Int) (n : Nat) : Int := rk_sm (fun j => if vw M 12 s 0 j = 0 ∧ rs_od (vw M) s j k ≤ m then rs_od (vw M) s j k else 0) n
theorem mo_cu_c {M : rk_M} {s m k : Int} (hs : 0 ≤ s ∧ s < 3) : rf_c (vw M) s m k = mo_cu M s m k (M 30 0 0 2).toNat := by unfold rf_c; rw [vw_ju hs]; rfl
theorem mo_su_s {M : rk_M} {s m k : Int} (hs : 0 ≤ s ∧ s < 3) : rf_s (vw M) s m k = mo_su M s m k (M 30 0 0 2).toNat := by unfold rf_s; rw [vw_ju hs]; rfl
theorem mo_cu_sk {M : rk_M} {s k : Int} (hs : 0 ≤ s ∧ s < 3) (h0 : 0 ≤ k) (h1 : k < M 30 0 0 1) (n : Nat) : mo_cu M s (M 30 0 0 1) k n = rs_pan (vw M) s n := by
  refine rk_ct_congr _ (fun j hj => ⟨fun q => q.1, fun q => ⟨q, ?_⟩⟩)
  have h := rs_od_le (vw M) s j k h0 (by rw [vw_sk hs]; exact h1)
  rw [vw_sk hs] at h
  exact h
def mo_w4 (M : rk_M) (k a b c d : Int) : rk_M := rk_up (rk_up (rk_up (rk_up M 41 0 0 (4 * k) a) 41 0 0 (4 * k + 1) b) 41 0 0 (4 * k + 2) c) 41 0 0 (4 * k + 3) d
def pr_mo_reckonSkater (M : rk_M) (s k : Int) : Prop := mv M s ∧ 0 ≤ k ∧ k < M 30 0 0 1 ∧ 0 < rs_pan (vw M) s (M 30 0 0 2).toNat ∧ ∀ j, 0 ≤ j → j < M 30 0 0 2 → vw M 12 s 0 j = 0 → M 40 0 0 (10 * j + k) = rs_od (vw M) s j k
def po_mo_reckonSkater (M : rk_M) (s k : Int) (z : rk_Z) (M' : rk_M) : Prop := z = .inl none ∧ M' = mo_w4 M k (rf_g (vw M) s 0 k) (rf_g (vw M) s 1 k) (rf_g (vw M) s 2 k) (rf_g (vw M) s 3 k)
def pp_mo_reckonSkater (as : List rk_V) (M : rk_M) : Prop := as = [rk_r 30 0 0, rk_i (rk_ai as 1), rk_i (rk_ai as 2)] ∧ pr_mo_reckonSkater M (rk_ai as 1) (rk_ai as 2)
def qq_mo_reckonSkater (as : List rk_V) (M : rk_M) (z : rk_Z) (M' : rk_M) : Prop := po_mo_reckonSkater M (rk_ai as 1) (rk_ai as 2) z M'
set_option maxHeartbeats 1000000 in
set_option maxRecDepth 20000 in
theorem c_mo_reckonSkater (l : Launch) : rk_Sp l rk_cs yn_mo_reckonSkater (.code yn_mo_reckonSkater prog_5_method_21_code 10 none) 1 pp_mo_reckonSkater qq_mo_reckonSkater 0 := by
  refine rk_mk (kc := kc_mo_reckonSkater) (ft := ft_mo) (ca := [(2 * 86, (2, pp_mo_panel, qq_mo_panel, 0))]) (th := []) (stops := [12, 29, 99, 158]) (rt := 0) ck_mo_reckonSkater ftc_mo (List.forall_mem_cons.mpr ⟨rk_ckV (n := 1) (c_mo_panel l) ww_mo_panel lk_mo_86 (by decide) (by decide) (by decide) (by decide +kernel) (fun as M h => ⟨_, _, _, _, h.1, rk_rcv_mo⟩), fun _ h => absurd h List.not_mem_nil⟩) (fun _ h => absurd h List.not_mem_nil) (Or.inl ⟨rfl, rfl⟩) (by decide +kernel) (fun as M h => by rw [h.1]; exact ⟨Nat.le_of_ble_eq_true rfl, rk_nlok rfl⟩) ?_
  intro L as M G hp hrg hG
  obtain ⟨has, hP⟩ := hp
  generalize rk_ai as 1 = s at has hP
  generalize rk_ai as 2 = k at has hP
  subst has
  obtain ⟨hm, hk0, hk1, hpan, hord⟩ := hP
  have hs := hm.1
  have hsk := hm.sk
  have hju := hm.ju
  have hob : ∀ j, 1 ≤ rs_od (vw M) s j k ∧ rs_od (vw M) s j k ≤ 11 := fun j => rs_od_b (vw M) s j k (by rw [vw_sk hs]; omega) (by rw [vw_sk hs]; omega)
  have hol : ∀ j, rs_od (vw M) s j k ≤ M 30 0 0 1 := fun j => by
    have h := rs_od_le (vw M) s j k hk0 (by rw [vw_sk hs]; exact hk1)
    rw [vw_sk hs] at h
    exact h
  have hpb := rk_ct_b (fun j => vw M 12 s 0 j = 0) (fun _ => inferInstance) (M 30 0 0 2).toNat
  change 0 ≤ rs_pan (vw M) s (M 30 0 0 2).toNat ∧ rs_pan (vw M) s (M 30 0 0 2).toNat ≤ (((M 30 0 0 2).toNat : Nat) : Int) at hpb
  have loop3 : ∀ i : Nat, i ≤ (M 30 0 0 2).toNat → ∀ (h : Int) (x9 : rk_V),
      G M 99 [rk_r 30 0 0, rk_i s, rk_i k, rk_i h, rk_i (rf_m (vw M) s k), rk_i (rf_c (vw M) s (rf_m (vw M) s k) k), rk_i (mo_su M s (rf_m (vw M) s k) k i), rk_i (mo_su M s (M 30 0 0 1) k i), rk_i i, x9] [] 0 := by
    refine rk_loop (M 30 0 0 2).toNat ?_
    intro i hi hnext h x9
    have hsb : ∀ m, 0 ≤ mo_su M s m k i ∧ mo_su M s m k i ≤ 11 * i := fun m => rk_sm_b (fun j => by have := hob j; split <;> omega) i
    have hb1 := hsb (rf_m (vw M) s k)
    have hb2 := hsb (M 30 0 0 1)
    refine hG 80 _ _ _ _ _ rfl ?_
    refine And.intro ?_ ?_
    · intro h1
      have hi' : i = (M 30 0 0 2).toNat := by omega
      refine And.intro (And.intro (by omega) (by omega)) ?_
      refine And.intro (And.intro (by omega) (by show _ < (40 : Int); omega)) ?_
      refine And.intro (And.intro (by omega) (by omega)) ?_
      refine And.intro (And.intro (by omega) (by omega)) ?_
      refine And.intro (And.intro (by omega) (by show _ < (40 : Int); omega)) ?_
      refine And.intro (And.intro (by omega) (by omega)) ?_
      refine And.intro (And.intro (by omega) (by omega)) ?_
      refine And.intro (And.intro (by omega) (by show _ < (40 : Int); omega)) ?_
      refine And.intro (And.intro (by omega) (by omega)) ?_
      refine And.intro (And.intro (by omega) (by omega)) ?_
      refine And.intro (And.intro (by omega) (by show _ < (40 : Int); omega)) ?_
      refine And.intro rfl (And.intro (And.intro rfl ?_) (Nat.le_refl _))
      show mo_w4 M k _ _ _ _ = mo_w4 M k (rf_g (vw M) s 0 k) (rf_g (vw M) s 1 k) (rf_g (vw M) s 2 k) (rf_g (vw M) s 3 k)
      unfold rf_g
      rw [if_pos rfl, if_neg (by decide), if_pos rfl, if_neg (by decide), if_neg (by decide), if_pos rfl, if_neg (by decide), if_neg (by decide), if_neg (by decide), mo_su_s hs, mo_su_s hs, vw_sk hs, hi']
    · intro h1
      have hv : vw M 12 s 0 i = M 35 0 0 (9 * s + i) := vw_sr hs (by omega)
      have hof := hob i
      have hol' := hol i
      have fin : ∀ o : Int, (o = if vw M 12 s 0 i = 0 then rs_od (vw M) s i k else 0) → G M 158 [rk_r 30 0 0, rk_i s, rk_i k, rk_i h, rk_i (rf_m (vw M) s k), rk_i (rf_c (vw M) s (rf_m (vw M) s k) k), rk_i (mo_su M s (rf_m (vw M) s k) k i), rk_i (mo_su M s (M 30 0 0 1) k i), rk_i i, rk_i o] [rk_i (mo_su M s (rf_m (vw M) s k) k (i + 1))] 0 := by
        intro o ho
        have hob2 : 0 ≤ o ∧ o ≤ 11 := by rw [ho]; split <;> omega
        refine hG 20 _ _ _ _ _ rfl ?_
        refine And.intro (And.intro (by omega) (by omega)) ?_
        refine And.intro (And.intro (by omega) (by omega)) ?_
        refine rk_gto (hnext (by omega) h (rk_i o)) rfl ?_ rfl
        have e : mo_su M s (M 30 0 0 1) k (i + 1) = mo_su M s (M 30 0 0 1) k i + o := by
          show mo_su M s (M 30 0 0 1) k i + (if vw M 12 s 0 i = 0 ∧ rs_od (vw M) s i k ≤ M 30 0 0 1 then rs_od (vw M) s i k else 0) = _
          rw [ho]
          by_cases hc : vw M 12 s 0 i = 0
          · rw [if_pos ⟨hc, hol'⟩, if_pos hc]
          · rw [if_neg (fun q => hc q.1), if_neg hc]
        rw [e]; rfl
      have es : mo_su M s (rf_m (vw M) s k) k (i + 1) = mo_su M s (rf_m (vw M) s k) k i + (if vw M 12 s 0 i = 0 ∧ rs_od (vw M) s i k ≤ rf_m (vw M) s k then rs_od (vw M) s i k else 0) := rfl
      refine And.intro (And.intro (by omega) (by omega)) ?_
      refine And.intro (And.intro (by omega) (by omega)) ?_
      refine And.intro (And.intro (by omega) (by show _ < (27 : Int); omega)) ?_
      refine And.intro ?_ ?_
      · intro h2
        have hor := hord i (by omega) (by omega) (by rw [hv]; exact h2)
        rw [hv, if_pos h2] at fin
        refine And.intro (And.intro (by omega) (by omega)) ?_
        refine And.intro (And.intro (by omega) (by omega)) ?_
        refine And.intro (And.intro (by omega) (by show _ < (90 : Int); omega)) ?_
        refine And.intro ?_ ?_
        · intro h3
          refine rk_gto (fin _ hor) rfl rfl ?_
          rw [hor] at h3
          rw [es, if_neg (by omega), Int.add_zero]
        · intro h3
          rw [hor] at h3
          refine And.intro (And.intro (by omega) (by omega)) ?_
          refine rk_gto (fin _ hor) rfl rfl ?_
          rw [es, if_pos ⟨by rw [hv]; exact h2, h3⟩, hor]
      · intro h2
        rw [hv, if_neg h2] at fin
        refine And.intro ?_ ?_
        · intro h3
          refine rk_gto (fin _ rfl) rfl rfl ?_
          rw [es, if_neg (fun q => h2 (by rw [← hv]; exact q.1)), Int.add_zero]
        · intro h3
          refine And.intro (And.intro (by omega) (by omega)) ?_
          refine rk_gto (fin _ rfl) rfl rfl ?_
          rw [es, if_neg (fun q => h2 (by rw [← hv]; exact q.1))]
  have outer : ∀ i : Nat, i ≤ (M 30 0 0 1).toNat → (1 ≤ i → rf_m (vw M) s k = rk_mjf (fun m => rf_c (vw M) s m k) (rs_pan (vw M) s (M 30 0 0 2).toNat) ((M 30 0 0 1).toNat - i) i) → ∀ (x6 x7 x8 x9 : rk_V),
      G M 12 [rk_r 30 0 0, rk_i s, rk_i k, rk_i (rs_pan (vw M) s (M 30 0 0 2).toNat), rk_i i, rk_i (if i = 0 then 0 else mo_cu M s i k (M 30 0 0 2).toNat), x6, x7, x8, x9] [] 0 := by
    refine rk_loop (M 30 0 0 1).toNat ?_
    intro i hi hnext hmj x6 x7 x8 x9
    have hcb := rk_ct_b (fun j => vw M 12 s 0 j = 0 ∧ rs_od (vw M) s j k ≤ i) (fun _ => inferInstance) (M 30 0 0 2).toNat
    change 0 ≤ mo_cu M s i k (M 30 0 0 2).toNat ∧ mo_cu M s i k (M 30 0 0 2).toNat ≤ (((M 30 0 0 2).toNat : Nat) : Int) at hcb
    have hc9 : 0 ≤ (if i = 0 then 0 else mo_cu M s i k (M 30 0 0 2).toNat) ∧ (if i = 0 then 0 else mo_cu M s i k (M 30 0 0 2).toNat) ≤ 9 := by split <;> omega
    refine hG 40 _ _ _ _ _ rfl ?_
    refine And.intro (And.intro (by omega) (by omega)) ?_
    refine And.intro ?_ ?_
    · intro h1
      have hi1 : 1 ≤ i := by
        by_cases e : i = 0
        · rw [if_pos e] at h1; omega
        · omega
      rw [if_neg (by omega)] at h1
      have em : rf_m (vw M) s k = i := by
        rw [hmj hi1]
        cases hf : (M 30 0 0 1).toNat - i with
        | zero => rfl
        | succ f =>
          unfold rk_mjf
          rw [if_neg]
          show ¬ 2 * rf_c (vw M) s i k ≤ _
          rw [mo_cu_c hs]
          omega
      have ec : (if i = 0 then 0 else mo_cu M s i k (M 30 0 0 2).toNat) = rf_c (vw M) s (rf_m (vw M) s k) k := by rw [if_neg (by omega), em, mo_cu_c hs]
      refine rk_gto (loop3 0 (Nat.zero_le _) (rs_pan (vw M) s (M 30 0 0 2).toNat) x9) rfl ?_ rfl
      rw [em] at ec ⊢
      rw [ec]; rfl
    · intro h1
      refine And.intro (And.intro (by omega) (by omega)) ?_
      have hin : ∀ q : Nat, q ≤ (M 30 0 0 2).toNat → G M 29 [rk_r 30 0 0, rk_i s, rk_i k, rk_i (rs_pan (vw M) s (M 30 0 0 2).toNat), rk_i (i + 1 : Nat), rk_i (mo_cu M s (i + 1 : Nat) k q), rk_i q, x7, x8, x9] [] 0 := by
        refine rk_loop (M 30 0 0 2).toNat ?_
        intro q hq hqn
        have hqb := rk_ct_b (fun j => vw M 12 s 0 j = 0 ∧ rs_od (vw M) s j k ≤ (i + 1 : Nat)) (fun _ => inferInstance) q
        change 0 ≤ mo_cu M s (i + 1 : Nat) k q ∧ mo_cu M s (i + 1 : Nat) k q ≤ (q : Int) at hqb
        refine hG 60 _ _ _ _ _ rfl ?_
        refine And.intro ?_ ?_
        · intro h2
          have hq' : q = (M 30 0 0 2).toNat := by omega
          have hlt : i < (M 30 0 0 1).toNat := by
            by_cases e : i = 0
            · omega
            · rw [if_neg e] at h1
              by_cases e2 : i = (M 30 0 0 1).toNat
              · have h3 := mo_cu_sk (M := M) hs hk0 hk1 (M 30 0 0 2).toNat
                rw [show M 30 0 0 1 = (i : Int) by omega] at h3
                rw [h3] at h1
                omega
              · omega
          refine rk_gto (hnext hlt ?_ (rk_i q) x7 x8 x9) rfl ?_ rfl
          · intro _
            by_cases e : i = 0
            · subst e
              unfold rf_m
              rw [vw_sk hs, vw_ju hs, show (M 30 0 0 1 - 1).toNat = (M 30 0 0 1).toNat - (0 + 1) by omega]
              rfl
            · rw [hmj (by omega)]
              rw [if_neg e] at h1
              rw [show (M 30 0 0 1).toNat - i = ((M 30 0 0 1).toNat - (i + 1)) + 1 by omega]
              conv => lhs; unfold rk_mjf
              rw [if_pos (show 2 * rf_c (vw M) s i k ≤ _ by rw [mo_cu_c hs]; exact h1)]
              rfl
          · rw [if_neg (by omega), hq']
        · intro h2
          have hv : vw M 12 s 0 q = M 35 0 0 (9 * s + q) := vw_sr hs (by omega)
          refine And.intro (And.intro (by omega) (by omega)) ?_
          refine And.intro (And.intro (by omega) (by omega)) ?_
          refine And.intro (And.intro (by omega) (by show _ < (27 : Int); omega)) ?_
          refine And.intro ?_ ?_
          · intro h3
            refine And.intro (And.intro (by omega) (by omega)) ?_
            refine rk_gto (hqn (by omega)) rfl ?_ rfl
            have e : mo_cu M s (i + 1 : Nat) k (q + 1) = mo_cu M s (i + 1 : Nat) k q := rk_ct_f (fun y => h3 (by rw [← hv]; exact y.1))
            rw [e]; rfl
          · intro h3
            have hor := hord q (by omega) (by omega) (by rw [hv]; exact h3)
            refine And.intro (And.intro (by omega) (by omega)) ?_
            refine And.intro (And.intro (by omega) (by omega)) ?_
            refine And.intro (And.intro (by omega) (by show _ < (90 : Int); omega)) ?_
            refine And.intro ?_ ?_
            · intro h4
              rw [hor] at h4
              refine And.intro (And.intro (by omega) (by omega)) ?_
              refine rk_gto (hqn (by omega)) rfl ?_ rfl
              have e : mo_cu M s (i + 1 : Nat) k (q + 1) = mo_cu M s (i + 1 : Nat) k q := rk_ct_f (fun y => by have h5 := y.2; exact absurd h5 (by exact Int.not_le.mpr h4))
              rw [e]; rfl
            · intro h4
              rw [hor] at h4
              refine And.intro (And.intro (by omega) (by omega)) ?_
              refine And.intro (And.intro (by omega) (by omega)) ?_
              refine rk_gto (hqn (by omega)) rfl ?_ rfl
              have e : mo_cu M s (i + 1 : Nat) k (q + 1) = mo_cu M s (i + 1 : Nat) k q + 1 := rk_ct_t ⟨by rw [hv]; exact h3, h4⟩
              rw [e]; rfl
      exact rk_gto (hin 0 (Nat.zero_le _)) rfl rfl rfl
  refine hG 20 _ _ _ _ _ rfl ?_
  refine And.intro (And.intro rfl (show pr_mo_panel M s from ⟨hs.1, hs.2, hju.1, hju.2⟩)) (And.intro (Nat.le_refl _) ?_)
  intro z Mz hq
  have hz : z = rk_one (rs_pan (vw M) s (M 30 0 0 2).toNat) := hq.1.trans (congrArg rk_one (mo_pn hs _ (by omega)))
  have hM : Mz = M := hq.2
  subst z Mz
  clear hq
  exact outer 0 (Nat.zero_le _) (fun q => absurd q (by decide)) _ _ _ _
end
section
/-! Contracts of the reference: a segment reckoned; places -/
/-- behind a reckoning: ordinals and results are others, and of a complete segment the results are right -/
def mo_rs (M M' : rk_M) (s : Int) : Prop := ∀ k, 0 ≤ k → k < M 30 0 0 1 → vw M 11 s 0 k ≠ 0 → ∀ w, 0 ≤ w → w < 4 → M' 41 0 0 (4 * k + w) = rf_g (vw M) s w k
def mo_rk (M : rk_M) (s : Int) (M' : rk_M) : Prop := (∀ t o r i, t ≠ 40 → t ≠ 41 → M' t o r i = M t o r i) ∧ (rs_com (vw M) s ≠ 0 → mo_rs M M' s)
def mo_in (M : rk_M) (s : Int) (n : Nat) : Int := if rs_inc (vw M) s n = 0 then 1 else 0
def mo_so (M : rk_M) (s : Int) (n : Nat) : Int := if rs_sta (vw M) s n = 0 then 0 else 1
theorem mo_w4_r {M : rk_M} {k a b c d : Int} (i : Int) (h : i < 4 * k ∨ 4 * k + 3 < i) : mo_w4 M k a b c d 41 0 0 i = M 41 0 0 i := by
  unfold mo_w4
  rw [rk_up_ne (by omega), rk_up_ne (by omega), rk_up_ne (by omega), rk_up_ne (by omega)]
theorem mo_w4_o {M : rk_M} {k a b c d : Int} {t : Nat} {o r i : Int} (h : t ≠ 41) : mo_w4 M k a b c d t o r i = M t o r i := by
  unfold mo_w4
  rw [rk_up_ne (by omega), rk_up_ne (by omega), rk_up_ne (by omega), rk_up_ne (by omega)]
theorem mo_w4_s {M : rk_M} {k : Int} {g : Int → Int} {w : Int} (h0 : 0 ≤ w) (h1 : w < 4) : mo_w4 M k (g 0) (g 1) (g 2) (g 3) 41 0 0 (4 * k + w) = g w := by
  unfold mo_w4
  by_cases e3 : w = 3
  · subst e3; rw [rk_up_self]
  rw [rk_up_ne (by omega)]
  by_cases e2 : w = 2
  · subst e2; rw [rk_up_self]
  rw [rk_up_ne (by omega)]
  by_cases e1 : w = 1
  · subst e1; rw [rk_up_self]
  rw [rk_up_ne (by omega)]
  have e0 : w = 0 := by omega
  subst e0
  rw [Int.add_zero, rk_up_self]
def pr_mo_reckon (M : rk_M) (s : Int) : Prop := mv M s ∧ 0 < rs_pan (vw M) s (M 30 0 0 2).toNat
def po_mo_reckon (M : rk_M) (s : Int) (z : rk_Z) (M' : rk_M) : Prop := z = rk_one (rs_com (vw M) s) ∧ mo_rk M s M'
def pp_mo_reckon (as : List rk_V) (M : rk_M) : Prop := as = [rk_r 30 0 0, rk_i (rk_ai as 1)] ∧ pr_mo_reckon M (rk_ai as 1)
def qq_mo_reckon (as : List rk_V) (M : rk_M) (z : rk_Z) (M' : rk_M) : Prop := po_mo_reckon M (rk_ai as 1) z M'
set_option maxHeartbeats 1000000 in
set_option maxRecDepth 20000 in
theorem c_mo_reckon (l : Launch) : rk_Sp l rk_cs yn_mo_reckon (.code yn_mo_reckon prog_5_method_22_code 5 (some .boolean)) 3 pp_mo_reckon qq_mo_reckon 0 := by
  refine rk_mk (kc := kc_mo_reckon) (ft := ft_mo) (ca := [(2 * 102, (3, pp_mo_reckonJudge, qq_mo_reckonJudge, 0)), (2 * 94, (3, pp_mo_starts, qq_mo_starts, 0)), (2 * 105, (3, pp_mo_reckonSkater, qq_mo_reckonSkater, 0))]) (th := []) (stops := [4, 60]) (rt := 2) ck_mo_reckon ftc_mo (List.forall_mem_cons.mpr ⟨rk_ckV (n := 2) (c_mo_reckonJudge l) ww_mo_reckonJudge lk_mo_102 (by decide) (by decide) (by decide) (by decide +kernel) (fun as M h => ⟨_, _, _, _, h.1, rk_rcv_mo⟩), List.forall_mem_cons.mpr ⟨rk_ckV (n := 2) (c_mo_starts l) ww_mo_starts lk_mo_94 (by decide) (by decide) (by decide) (by decide +kernel) (fun as M h => ⟨_, _, _, _, h.1, rk_rcv_mo⟩), List.forall_mem_cons.mpr ⟨rk_ckV (n := 2) (c_mo_reckonSkater l) ww_mo_reckonSkater lk_mo_105 (by decide) (by decide) (by decide) (by decide +kernel) (fun as M h => ⟨_, _, _, _, h.1, rk_rcv_mo⟩), fun _ h => absurd h List.not_mem_nil⟩⟩⟩) (fun _ h => absurd h List.not_mem_nil) (Or.inr (Or.inr (Or.inl ⟨rfl, rfl⟩))) (by decide +kernel) (fun as M h => by rw [h.1]; exact ⟨Nat.le_of_ble_eq_true rfl, rk_nlok rfl⟩) ?_
  intro L as M G hp hrg hG
  obtain ⟨has, hP⟩ := hp
  generalize rk_ai as 1 = s at has hP
  subst has
  obtain ⟨hm, hpan⟩ := hP
  have hs := hm.1
  have hsk := hm.sk
  have hju := hm.ju
  have hin01 : ∀ n, mo_in M s n = 0 ∨ mo_in M s n = 1 := fun n => by unfold mo_in; split <;> simp
  have hcom0 : mo_in M s (M 30 0 0 2).toNat = 0 → rs_com (vw M) s = 0 := by
    intro h
    unfold rs_com
    rw [if_neg]
    intro q
    have h1 := q.1
    rw [vw_ju hs] at h1
    unfold mo_in at h
    rw [if_pos h1] at h
    exact absurd h (by decide)
  have loopB : ∀ i : Nat, i ≤ (M 30 0 0 1).toNat → ∀ (M2 : rk_M), (∀ t o r q, t ≠ 40 → t ≠ 41 → M2 t o r q = M t o r q) → (mo_in M s (M 30 0 0 2).toNat ≠ 0 → (∀ j k : Int, 0 ≤ j → j < M 30 0 0 2 → 0 ≤ k → k < M 30 0 0 1 → vw M 12 s 0 j = 0 → vw M 11 s 0 k ≠ 0 → M2 40 0 0 (10 * j + k) = rs_od (vw M) s j k) ∧ ∀ k : Int, 0 ≤ k → k < i → vw M 11 s 0 k ≠ 0 → ∀ w, 0 ≤ w → w < 4 → M2 41 0 0 (4 * k + w) = rf_g (vw M) s w k) →
      G M2 60 [rk_r 30 0 0, rk_i s, rk_i (mo_in M s (M 30 0 0 2).toNat), rk_i (mo_so M s i), rk_i i] [] 0 := by
    refine rk_loop (M 30 0 0 1).toNat ?_
    intro i hi hnext M2 hA hR
    have e1 : M2 30 0 0 1 = M 30 0 0 1 := hA _ _ _ _ (by omega) (by omega)
    have e2 : M2 30 0 0 2 = M 30 0 0 2 := hA _ _ _ _ (by omega) (by omega)
    have hv : vw M2 = vw M := vw_congr (fun t o r q ht _ => hA t o r q (by omega) (by omega))
    have hm2 : mv M2 s := hm.congr (fun t o r q ht _ => hA t o r q (by omega) (by omega))
    have hsb := rk_ct_b (fun k => vw M 11 s 0 k ≠ 0) (fun _ => inferInstance) i
    change 0 ≤ rs_sta (vw M) s i ∧ rs_sta (vw M) s i ≤ (i : Int) at hsb
    have out0 : mo_in M s (M 30 0 0 2).toNat = 0 → rk_one 0 = rk_one (rs_com (vw M) s) ∧ mo_rk M s M2 := fun h => ⟨by rw [hcom0 h], hA, fun q => absurd (hcom0 h) q⟩
    refine hG 40 _ _ _ _ _ rfl ?_
    refine And.intro ?_ ?_
    · intro h
      have hi' : i = (M 30 0 0 1).toNat := by omega
      refine And.intro ?_ ?_
      · intro h1
        exact And.intro (Or.inl rfl) (And.intro (out0 h1) (Nat.le_refl _))
      · intro h1
        have hinc : rs_inc (vw M) s (M 30 0 0 2).toNat = 0 := by
          unfold mo_in at h1
          split at h1
          · assumption
          · exact absurd rfl h1
        refine And.intro ?_ ?_
        · intro h2
          have h3 : rs_sta (vw M) s (M 30 0 0 1).toNat = 0 := by
            rw [hi'] at h2
            unfold mo_so at h2
            split at h2
            · assumption
            · exact absurd h2 (by decide)
          have hc : rs_com (vw M) s = 0 := by
            unfold rs_com
            rw [if_neg]
            intro q
            have h4 := q.2
            rw [vw_sk hs, h3] at h4
            exact absurd h4 (by decide)
          refine And.intro (Or.inl rfl) (And.intro ?_ (Nat.le_refl _))
          show rk_one 0 = rk_one (rs_com (vw M) s) ∧ mo_rk M s M2
          exact ⟨by rw [hc], hA, fun q => absurd hc q⟩
        · intro h2
          have h3 : rs_sta (vw M) s (M 30 0 0 1).toNat ≠ 0 := by
            rw [hi'] at h2
            unfold mo_so at h2
            split at h2
            · exact absurd rfl h2
            · assumption
          have hc : rs_com (vw M) s = 1 := by
            unfold rs_com
            rw [if_pos]
            refine ⟨by rw [vw_ju hs]; exact hinc, ?_⟩
            rw [vw_sk hs]
            rw [hi'] at hsb
            omega
          refine And.intro (Or.inr rfl) (And.intro ?_ (Nat.le_refl _))
          show rk_one 1 = rk_one (rs_com (vw M) s) ∧ mo_rk M s M2
          exact ⟨by rw [hc], hA, fun _ k k0 k1 => (hR h1).2 k k0 (by omega)⟩
    · intro h
      refine And.intro ?_ ?_
      · intro h1
        refine And.intro (fun _ => ?_) (fun q => absurd h1 q)
        exact And.intro (Or.inl rfl) (And.intro (out0 h1) (Nat.le_refl _))
      · intro h1
        obtain ⟨hR1, hR2⟩ := hR h1
        refine And.intro (And.intro rfl (show pr_mo_starts M2 s i from ⟨by omega, by omega⟩)) (And.intro (Nat.le_refl _) ?_)
        intro z Mz hq
        have hz : z = rk_one (vw M 11 s 0 i) := hq.1.trans (congrArg rk_one ((mo_st (i := i) hs (by omega)).trans (by rw [hv])))
        have hM : Mz = M2 := hq.2
        subst z Mz
        clear hq
        refine And.intro ?_ ?_
        · intro h2
          refine And.intro (And.intro (by omega) (by omega)) ?_
          have hlast : ∀ k : Int, 0 ≤ k → k < ((i + 1 : Nat) : Int) → vw M 11 s 0 k ≠ 0 → ∀ w, 0 ≤ w → w < 4 → M2 41 0 0 (4 * k + w) = rf_g (vw M) s w k := by
            intro k k0 k1 hk
            by_cases e : k = i
            · subst e; exact absurd h2 hk
            · exact hR2 k k0 (by omega) hk
          refine rk_gto (hnext (by omega) M2 hA (fun _ => ⟨hR1, hlast⟩)) rfl ?_ rfl
          have e : rs_sta (vw M) s (i + 1) = rs_sta (vw M) s i := rk_ct_f (fun q => q h2)
          unfold mo_so
          rw [e]; rfl
        · intro h2
          refine And.intro (And.intro rfl (show pr_mo_reckonSkater M2 s i from ⟨hm2, by omega, by omega, by rw [hv, e2]; exact hpan, by rw [hv, e2]; exact fun j j0 j1 hj => hR1 j i j0 j1 (by omega) (by omega) hj h2⟩)) (And.intro (Nat.le_refl _) ?_)
          intro z Mz hq
          have hz : z = .inl none := hq.1
          have hM : Mz = mo_w4 M2 i (rf_g (vw M) s 0 i) (rf_g (vw M) s 1 i) (rf_g (vw M) s 2 i) (rf_g (vw M) s 3 i) := by have h := hq.2; rw [hv] at h; exact h
          subst z Mz
          clear hq
          refine And.intro (And.intro (by omega) (by omega)) ?_
          refine rk_gto (hnext (by omega) _ ?_ ?_) rfl ?_ rfl
          · intro t o r q h3 h4
            rw [mo_w4_o h4]
            exact hA t o r q h3 h4
          · intro _
            refine ⟨fun j k j0 j1 k0 k1 hj hk => ?_, fun k k0 k1 hk w w0 w1 => ?_⟩
            · rw [mo_w4_o (by decide)]
              exact hR1 j k j0 j1 k0 k1 hj hk
            · by_cases e : k = i
              · subst e
                exact mo_w4_s (g := fun w => rf_g (vw M) s w i) w0 w1
              · rw [mo_w4_r _ (by omega)]
                exact hR2 k k0 (by omega) hk w w0 w1
          · have e : rs_sta (vw M) s (i + 1) = rs_sta (vw M) s i + 1 := rk_ct_t h2
            have e2 : mo_so M s (i + 1) = 1 := by unfold mo_so; rw [e, if_neg (by omega)]
            rw [e2]; rfl
  have loopA : ∀ i : Nat, i ≤ (M 30 0 0 2).toNat → ∀ (M2 : rk_M) (x4 : rk_V), (∀ t o r q, t ≠ 40 → M2 t o r q = M t o r q) → (∀ j k : Int, 0 ≤ j → j < i → 0 ≤ k → k < M 30 0 0 1 → mo_al M s j (M 30 0 0 1).toNat ≠ 0 → vw M 11 s 0 k ≠ 0 → M2 40 0 0 (10 * j + k) = rs_od (vw M) s j k) →
      G M2 4 [rk_r 30 0 0, rk_i s, rk_i (mo_in M s i), rk_i i, x4] [] 0 := by
    refine rk_loop (M 30 0 0 2).toNat ?_
    intro i hi hnext M2 x4 hA hR
    have e1 : M2 30 0 0 1 = M 30 0 0 1 := hA _ _ _ _ (by omega)
    have e2 : M2 30 0 0 2 = M 30 0 0 2 := hA _ _ _ _ (by omega)
    have hv : vw M2 = vw M := vw_congr (fun t o r q ht _ => hA t o r q (by omega))
    have hm2 : mv M2 s := hm.congr (fun t o r q ht _ => hA t o r q (by omega))
    have hib := rk_ct_b (fun j => vw M 12 s 0 j = 0 ∧ rs_bad (vw M) s j (vw M 10 s 0 3).toNat ≠ 0) (fun _ => inferInstance) i
    change 0 ≤ rs_inc (vw M) s i ∧ rs_inc (vw M) s i ≤ (i : Int) at hib
    refine hG 40 _ _ _ _ _ rfl ?_
    refine And.intro ?_ ?_
    · intro h
      have hi' : i = (M 30 0 0 2).toNat := by omega
      refine rk_gto (loopB 0 (Nat.zero_le _) M2 (fun t o r q h1 _ => hA t o r q h1) ?_) rfl ?_ rfl
      · intro h1
        have hinc : rs_inc (vw M) s (M 30 0 0 2).toNat = 0 := by
          unfold mo_in at h1
          split at h1
          · assumption
          · exact absurd rfl h1
        refine ⟨fun j k j0 j1 k0 k1 hj hk => hR j k j0 (by omega) k0 k1 ?_ hk, fun k k0 k1 => absurd k1 (by omega)⟩
        have hz := rk_ct_z _ hinc j j0 (by omega)
        have hb : rs_bad (vw M) s j (M 30 0 0 1).toNat = 0 := Classical.byContradiction (fun q => hz ⟨hj, by rw [vw_sk hs]; exact q⟩)
        unfold mo_al
        rw [if_pos hb]
        decide
      · rw [hi']; rfl
    · intro h
      refine And.intro (And.intro rfl (show pr_mo_reckonJudge M2 s i from ⟨hm2, by omega, by omega⟩)) (And.intro (Nat.le_refl _) ?_)
      intro z M3 hq
      have hz : z = rk_one (mo_al M s i (M 30 0 0 1).toNat) := hq.1.trans (congrArg rk_one (show mo_al M2 s i (M2 30 0 0 1).toNat = _ by unfold mo_al; rw [hv, e1]))
      have hM := hq.2
      subst z
      clear hq
      have hM3 : mo_oj M2 s i M3 := hM
      obtain ⟨hF, hO⟩ := hM3
      have hsr : vw M 12 s 0 i = M3 35 0 0 (9 * s + i) := by
        rw [vw_sr hs (by omega), hF _ _ _ _ (by omega), hA _ _ _ _ (by omega)]
      have e13 : M3 30 0 0 1 = M 30 0 0 1 := (hF _ _ _ _ (by omega)).trans e1
      have nx : ∀ (v : Int), v = mo_in M s (i + 1) → G M3 4 [rk_r 30 0 0, rk_i s, rk_i v, rk_i ((i : Int) + 1), rk_i (mo_al M s i (M 30 0 0 1).toNat)] [] 0 := by
        intro v hv'
        subst hv'
        refine rk_gto (hnext (by omega) M3 _ ?_ ?_) rfl rfl rfl
        · intro t o r q h1
          rw [hF t o r q (by omega)]
          exact hA t o r q h1
        · intro j k j0 j1 k0 k1 hj hk
          by_cases e : j = i
          · subst e
            have h2 := hO k k0 (by omega)
            rw [hv, e1] at h2
            have e3 : mo_al M2 s i (M 30 0 0 1).toNat = mo_al M s i (M 30 0 0 1).toNat := by unfold mo_al; rw [hv]
            rw [e3, if_pos ⟨hj, hk⟩] at h2
            exact h2
          · rw [hF _ _ _ _ (by omega)]
            exact hR j k j0 (by omega) k0 k1 hj hk
      have albad : mo_al M s i (M 30 0 0 1).toNat = 0 ↔ rs_bad (vw M) s i (vw M 10 s 0 3).toNat ≠ 0 := by
        rw [vw_sk hs]
        unfold mo_al
        split
        · rename_i q; exact ⟨fun h => absurd h (by decide), fun h => absurd q h⟩
        · rename_i q; exact ⟨fun _ => q, fun _ => rfl⟩
      refine And.intro ?_ ?_
      · intro h1
        refine And.intro (And.intro (by omega) (by omega)) ?_
        refine nx 0 ?_
        have hne : rs_inc (vw M) s i ≠ 0 := by
          intro q
          unfold mo_in at h1
          rw [if_pos q] at h1
          exact absurd h1 (by decide)
        have hmo : rs_inc (vw M) s i ≤ rs_inc (vw M) s (i + 1) := rk_ct_mono _ (by omega)
        unfold mo_in
        rw [if_neg (by omega)]
      · intro h1
        have hz0 : rs_inc (vw M) s i = 0 := by
          unfold mo_in at h1
          split at h1
          · assumption
          · exact absurd rfl h1
        refine And.intro ?_ ?_
        · intro h2
          refine And.intro (And.intro (by omega) (by omega)) ?_
          refine nx 1 ?_
          have e : rs_inc (vw M) s (i + 1) = rs_inc (vw M) s i := rk_ct_f (fun q => h2 (albad.mpr q.2))
          unfold mo_in
          rw [e, if_pos hz0]
        · intro h2
          refine And.intro (And.intro (by omega) (by omega)) ?_
          refine And.intro (And.intro (by omega) (by omega)) ?_
          refine And.intro (And.intro (by omega) (by show _ < (27 : Int); omega)) ?_
          refine And.intro ?_ ?_
          · intro h3
            refine And.intro (And.intro (by omega) (by omega)) ?_
            refine nx 0 ?_
            have e : rs_inc (vw M) s (i + 1) = rs_inc (vw M) s i + 1 := rk_ct_t ⟨hsr.trans h3, albad.mp h2⟩
            unfold mo_in
            rw [e, if_neg (by omega)]
          · intro h3
            refine And.intro (And.intro (by omega) (by omega)) ?_
            refine nx 1 ?_
            have e : rs_inc (vw M) s (i + 1) = rs_inc (vw M) s i := rk_ct_f (fun q => h3 (hsr.symm.trans q.1))
            unfold mo_in
            rw [e, if_pos hz0]
  refine hG 10 _ _ _ _ _ rfl ?_
  exact loopA 0 (Nat.zero_le _) M _ (fun _ _ _ _ _ => rfl) (fun j k j0 j1 => absurd j1 (by omega))
end
section
/-! Contracts of the reference: places; a new event -/
theorem rk_b0 {c : Prop} [Decidable c] (h : (if c then (1 : Int) else 0) = 0) : ¬ c := by
  intro q; rw [if_pos q] at h; exact absurd h (by decide)
theorem rk_b1 {c : Prop} [Decidable c] (h : (if c then (1 : Int) else 0) ≠ 0) : c := by
  by_cases q : c
  · exact q
  · rw [if_neg q] at h; exact absurd rfl h
theorem rk_pt_b (M : rk_M) (a b : Int) : 0 ≤ rk_pt M a b ∧ rk_pt M a b ≤ 4 := by
  unfold rk_pt
  repeat' split
  all_goals omega
def mo_bf (M : rk_M) (a b : Int) : Int := if rk_pt M a b = 0 then 0 else if rk_pt M a b = 2 then (if M 41 0 0 (4 * b + rk_pt M a b - 1) < M 41 0 0 (4 * a + rk_pt M a b - 1) then 1 else 0) else (if M 41 0 0 (4 * a + rk_pt M a b - 1) < M 41 0 0 (4 * b + rk_pt M a b - 1) then 1 else 0)
def pr_mo_isBefore (M : rk_M) (a b : Int) : Prop := 0 ≤ a ∧ a < 10 ∧ 0 ≤ b ∧ b < 10
def po_mo_isBefore (M : rk_M) (a b : Int) (z : rk_Z) (M' : rk_M) : Prop := z = rk_one (mo_bf M a b) ∧ M' = M
def pp_mo_isBefore (as : List rk_V) (M : rk_M) : Prop := as = [rk_r 30 0 0, rk_i (rk_ai as 1), rk_i (rk_ai as 2)] ∧ pr_mo_isBefore M (rk_ai as 1) (rk_ai as 2)
def qq_mo_isBefore (as : List rk_V) (M : rk_M) (z : rk_Z) (M' : rk_M) : Prop := po_mo_isBefore M (rk_ai as 1) (rk_ai as 2) z M'
set_option maxHeartbeats 1000000 in
set_option maxRecDepth 20000 in
theorem c_mo_isBefore (l : Launch) : rk_Sp l rk_cs yn_mo_isBefore (.code yn_mo_isBefore prog_5_method_24_code 6 (some .boolean)) 1 pp_mo_isBefore qq_mo_isBefore 0 := by
  refine rk_mk (kc := kc_mo_isBefore) (ft := ft_mo) (ca := [(2 * 109, (3, pp_mo_parts, qq_mo_parts, 0))]) (th := []) (stops := [29, 51]) (rt := 2) ck_mo_isBefore ftc_mo (List.forall_mem_cons.mpr ⟨rk_ckV (n := 2) (c_mo_parts l) ww_mo_parts lk_mo_109 (by decide) (by decide) (by decide) (by decide +kernel) (fun as M h => ⟨_, _, _, _, h.1, rk_rcv_mo⟩), fun _ h => absurd h List.not_mem_nil⟩) (fun _ h => absurd h List.not_mem_nil) (Or.inr (Or.inr (Or.inl ⟨rfl, rfl⟩))) (by decide +kernel) (fun as M h => by rw [h.1]; exact ⟨Nat.le_of_ble_eq_true rfl, rk_nlok rfl⟩) ?_
  intro L as M G hp hrg hG
  obtain ⟨has, hP⟩ := hp
  generalize rk_ai as 1 = a at has hP
  generalize rk_ai as 2 = b at has hP
  subst has
  obtain ⟨ha0, ha1, hb0, hb1⟩ := hP
  have hp := rk_pt_b M a b
  have f51 : ∀ x y : Int, (rk_pt M a b = 0 → x = 0 ∧ y = 0) → (rk_pt M a b ≠ 0 → x = M 41 0 0 (4 * a + rk_pt M a b - 1) ∧ y = M 41 0 0 (4 * b + rk_pt M a b - 1)) → G M 51 [rk_r 30 0 0, rk_i a, rk_i b, rk_i (rk_pt M a b), rk_i x, rk_i y] [] 0 := by
    intro x y h0 h1
    have fin : ∀ v : Int, v = mo_bf M a b → (rk_one v = rk_one (mo_bf M a b) ∧ M = M) := fun v h => ⟨by rw [h], rfl⟩
    refine hG 40 _ _ _ _ _ rfl ?_
    refine And.intro ?_ ?_
    · intro h2
      refine And.intro ?_ ?_
      · intro h3
        refine And.intro (Or.inl rfl) (And.intro (fin 0 ?_) (Nat.le_refl _))
        unfold mo_bf
        by_cases e : rk_pt M a b = 0
        · rw [if_pos e]
        · have := h1 e
          rw [if_neg e, if_neg h2, if_neg (by omega)]
      · intro h3
        refine And.intro (Or.inr rfl) (And.intro (fin 1 ?_) (Nat.le_refl _))
        unfold mo_bf
        by_cases e : rk_pt M a b = 0
        · have := h0 e; omega
        · have := h1 e
          rw [if_neg e, if_neg h2, if_pos (by omega)]
    · intro h2
      have := h1 (by omega)
      refine And.intro ?_ ?_
      · intro h3
        refine And.intro (Or.inl rfl) (And.intro (fin 0 ?_) (Nat.le_refl _))
        unfold mo_bf
        rw [if_neg (by omega), if_pos h2, if_neg (by omega)]
      · intro h3
        refine And.intro (Or.inr rfl) (And.intro (fin 1 ?_) (Nat.le_refl _))
        unfold mo_bf
        rw [if_neg (by omega), if_pos h2, if_pos (by omega)]
  have f29 : ∀ (x : Int) (x5 : rk_V), (rk_pt M a b = 0 → x = 0) → (rk_pt M a b ≠ 0 → x = M 41 0 0 (4 * a + rk_pt M a b - 1)) → G M 29 [rk_r 30 0 0, rk_i a, rk_i b, rk_i (rk_pt M a b), rk_i x, x5] [] 0 := by
    intro x x5 h0 h1
    refine hG 40 _ _ _ _ _ rfl ?_
    refine And.intro ?_ ?_
    · intro h2
      refine And.intro (And.intro (by omega) (by omega)) ?_
      refine And.intro (And.intro (by omega) (by omega)) ?_
      refine And.intro (And.intro (by omega) (by omega)) ?_
      refine And.intro (And.intro (by omega) (by show _ < (40 : Int); omega)) ?_
      exact rk_gto (f51 _ _ (fun q => absurd q h2) (fun _ => ⟨h1 h2, rfl⟩)) rfl rfl rfl
    · intro h2
      exact rk_gto (f51 _ _ (fun q => ⟨h0 h2, rfl⟩) (fun q => absurd h2 q)) rfl rfl rfl
  refine hG 40 _ _ _ _ _ rfl ?_
  refine And.intro (And.intro rfl (show pr_mo_parts M a b from ⟨ha0, ha1, hb0, hb1⟩)) (And.intro (Nat.le_refl _) ?_)
  intro z Mz hq
  have hz : z = rk_one (rk_pt M a b) := hq.1
  have hM : Mz = M := hq.2
  subst z Mz
  clear hq
  refine And.intro ?_ ?_
  · intro h2
    refine And.intro (And.intro (by omega) (by omega)) ?_
    refine And.intro (And.intro (by omega) (by omega)) ?_
    refine And.intro (And.intro (by omega) (by omega)) ?_
    refine And.intro (And.intro (by omega) (by show _ < (40 : Int); omega)) ?_
    exact rk_gto (f29 _ _ (fun q => absurd q h2) (fun _ => rfl)) rfl rfl rfl
  · intro h2
    exact rk_gto (f29 _ _ (fun q => rfl) (fun q => absurd h2 q)) rfl rfl rfl
/-- the four numbers of two starters, seen as the class's -/
theorem mo_pt_r {M N : rk_M} {s a b : Int} (ha : ∀ w, 0 ≤ w → w < 4 → M 41 0 0 (4 * a + w) = N 23 s w a) (hb : ∀ w, 0 ≤ w → w < 4 → M 41 0 0 (4 * b + w) = N 23 s w b) : rk_pt M a b = rs_pt N s a b := by
  unfold rk_pt rs_pt
  rw [← ha 0 (by omega) (by omega), ← ha 1 (by omega) (by omega), ← ha 2 (by omega) (by omega), ← ha 3 (by omega) (by omega), ← hb 0 (by omega) (by omega), ← hb 1 (by omega) (by omega), ← hb 2 (by omega) (by omega), ← hb 3 (by omega) (by omega), Int.add_zero, Int.add_zero]
theorem mo_bf_r {M N : rk_M} {s a b : Int} (ha : ∀ w, 0 ≤ w → w < 4 → M 41 0 0 (4 * a + w) = N 23 s w a) (hb : ∀ w, 0 ≤ w → w < 4 → M 41 0 0 (4 * b + w) = N 23 s w b) (hn : rk_pt M a b ≠ 0) : mo_bf M a b = rs_bf N s (rs_pt N s a b) a b := by
  have e := mo_pt_r ha hb
  have hp := rk_pt_b M a b
  unfold mo_bf rs_bf
  rw [← e, if_neg hn]
  by_cases h2 : rk_pt M a b = 2
  · rw [if_pos h2, if_pos h2, h2, ← ha 1 (by omega) (by omega), ← hb 1 (by omega) (by omega), show 4 * a + 2 - 1 = 4 * a + 1 by omega, show 4 * b + 2 - 1 = 4 * b + 1 by omega]
  · rw [if_neg h2, if_neg h2, ← ha (rk_pt M a b - 1) (by omega) (by omega), ← hb (rk_pt M a b - 1) (by omega) (by omega), show 4 * a + (rk_pt M a b - 1) = 4 * a + rk_pt M a b - 1 by omega, show 4 * b + (rk_pt M a b - 1) = 4 * b + rk_pt M a b - 1 by omega]
def mo_po (M : rk_M) (s k : Int) : Prop := mv M s ∧ 0 ≤ k ∧ k < M 30 0 0 1 ∧ vw M 11 s 0 k ≠ 0 ∧ mo_rs M M s
def pr_mo_placeOf (M : rk_M) (s k : Int) : Prop := mo_po M s k
def po_mo_placeOf (M : rk_M) (s k : Int) (z : rk_Z) (M' : rk_M) : Prop := z = rk_one (rf_pl (vw M) s k) ∧ M' = M
def pp_mo_placeOf (as : List rk_V) (M : rk_M) : Prop := as = [rk_r 30 0 0, rk_i (rk_ai as 1), rk_i (rk_ai as 2)] ∧ pr_mo_placeOf M (rk_ai as 1) (rk_ai as 2)
def qq_mo_placeOf (as : List rk_V) (M : rk_M) (z : rk_Z) (M' : rk_M) : Prop := po_mo_placeOf M (rk_ai as 1) (rk_ai as 2) z M'
set_option maxHeartbeats 1000000 in
set_option maxRecDepth 20000 in
theorem c_mo_placeOf (l : Launch) : rk_Sp l rk_cs yn_mo_placeOf (.code yn_mo_placeOf prog_5_method_25_code 5 (some .int)) 2 pp_mo_placeOf qq_mo_placeOf 0 := by
  refine rk_mk (kc := kc_mo_placeOf) (ft := ft_mo) (ca := [(2 * 94, (3, pp_mo_starts, qq_mo_starts, 0)), (2 * 112, (3, pp_mo_isBefore, qq_mo_isBefore, 0)), (2 * 109, (3, pp_mo_parts, qq_mo_parts, 0))]) (th := []) (stops := [5]) (rt := 1) ck_mo_placeOf ftc_mo (List.forall_mem_cons.mpr ⟨rk_ckV (n := 2) (c_mo_starts l) ww_mo_starts lk_mo_94 (by decide) (by decide) (by decide) (by decide +kernel) (fun as M h => ⟨_, _, _, _, h.1, rk_rcv_mo⟩), List.forall_mem_cons.mpr ⟨rk_ckV (n := 2) (c_mo_isBefore l) ww_mo_isBefore lk_mo_112 (by decide) (by decide) (by decide) (by decide +kernel) (fun as M h => ⟨_, _, _, _, h.1, rk_rcv_mo⟩), List.forall_mem_cons.mpr ⟨rk_ckV (n := 2) (c_mo_parts l) ww_mo_parts lk_mo_109 (by decide) (by decide) (by decide) (by decide +kernel) (fun as M h => ⟨_, _, _, _, h.1, rk_rcv_mo⟩), fun _ h => absurd h List.not_mem_nil⟩⟩⟩) (fun _ h => absurd h List.not_mem_nil) (Or.inr (Or.inl ⟨rfl, rfl⟩)) (by decide +kernel) (fun as M h => by rw [h.1]; exact ⟨Nat.le_of_ble_eq_true rfl, rk_nlok rfl⟩) ?_
  intro L as M G hp hrg hG
  obtain ⟨has, hP⟩ := hp
  generalize rk_ai as 1 = s at has hP
  generalize rk_ai as 2 = k at has hP
  subst has
  obtain ⟨hm, hk0, hk1, hst, hrs⟩ := hP
  have hs := hm.1
  have hsk := hm.sk
  have lp : ∀ i : Nat, i ≤ (M 30 0 0 1).toNat → G M 5 [rk_r 30 0 0, rk_i s, rk_i k, rk_i (2 + rs_ps (rf_M (vw M) s) s k i), rk_i i] [] 0 := by
    refine rk_loop (M 30 0 0 1).toNat ?_
    intro i hi hnext
    have hb := rs_ps_b (rf_M (vw M) s) s k i
    have es : rs_ps (rf_M (vw M) s) s k (i + 1) = rs_ps (rf_M (vw M) s) s k i + rs_cn (rf_M (vw M) s) s k i := rfl
    refine hG 60 _ _ _ _ _ rfl ?_
    refine And.intro ?_ ?_
    · intro h
      have hi' : i = (M 30 0 0 1).toNat := by omega
      refine And.intro (And.intro ?_ rfl) (Nat.le_refl _)
      show rk_one _ = rk_one (rf_pl (vw M) s k)
      unfold rf_pl
      rw [vw_sk hs, hi']
    · intro h
      refine And.intro (And.intro rfl (show pr_mo_starts M s i from ⟨by omega, by omega⟩)) (And.intro (Nat.le_refl _) ?_)
      intro z Mz hq
      have hz : z = rk_one (vw M 11 s 0 i) := hq.1.trans (congrArg rk_one (mo_st (i := i) hs (by omega)))
      have hM : Mz = M := hq.2
      subst z Mz
      clear hq
      have nx : ∀ v : Int, v = 2 + rs_ps (rf_M (vw M) s) s k i + rs_cn (rf_M (vw M) s) s k i → G M 5 [rk_r 30 0 0, rk_i s, rk_i k, rk_i v, rk_i ((i : Int) + 1)] [] 0 := by
        intro v hv
        refine rk_gto (hnext (by omega)) rfl ?_ rfl
        rw [es, ← Int.add_assoc, hv]; rfl
      have ecn : rs_cn (rf_M (vw M) s) s k i = if vw M 11 s 0 i ≠ 0 ∧ (i : Int) ≠ k then (if rs_pt (rf_M (vw M) s) s i k = 0 then 1 else if rs_bf (rf_M (vw M) s) s (rs_pt (rf_M (vw M) s) s i k) i k ≠ 0 then 2 else 0) else 0 := by
        unfold rs_cn; rw [rf_M_11]
      refine And.intro ?_ ?_
      · intro h1
        refine And.intro (And.intro (by omega) (by omega)) ?_
        exact nx _ (by rw [ecn, if_neg (fun q => q.1 h1), Int.add_zero])
      · intro h1
        refine And.intro ?_ ?_
        · intro h2
          refine And.intro (And.intro (by omega) (by omega)) ?_
          exact nx _ (by rw [ecn, if_neg (fun q => q.2 h2), Int.add_zero])
        · intro h2
          have hR : ∀ k : Int, 0 ≤ k → k < M 30 0 0 1 → vw M 11 s 0 k ≠ 0 → ∀ w, 0 ≤ w → w < 4 → M 41 0 0 (4 * k + w) = rf_M (vw M) s 23 s w k := fun k a b c w d e => by rw [rf_M_23]; exact hrs k a b c w d e
          have hRi := hR i (by omega) (by omega) h1
          have hRk := hR k hk0 hk1 hst
          have ept := mo_pt_r hRi hRk
          rw [if_pos ⟨h1, h2⟩, ← ept] at ecn
          refine And.intro (And.intro rfl (show pr_mo_isBefore M i k from ⟨by omega, by omega, by omega, by omega⟩)) (And.intro (Nat.le_refl _) ?_)
          intro z Mz hq
          have hz : z = rk_one (mo_bf M i k) := hq.1
          have hM : Mz = M := hq.2
          subst z Mz
          clear hq
          refine And.intro ?_ ?_
          · intro h3
            refine And.intro (And.intro rfl (show pr_mo_parts M i k from ⟨by omega, by omega, by omega, by omega⟩)) (And.intro (Nat.le_refl _) ?_)
            intro z Mz hq
            have hz : z = rk_one (rk_pt M i k) := hq.1
            have hM : Mz = M := hq.2
            subst z Mz
            clear hq
            refine And.intro ?_ ?_
            · intro h4
              refine And.intro (And.intro (by omega) (by omega)) ?_
              exact nx _ (by rw [ecn, if_neg h4, if_neg (by rw [ept, ← mo_bf_r hRi hRk h4]; exact fun q => q h3), Int.add_zero])
            · intro h4
              refine And.intro (And.intro (by omega) (by omega)) ?_
              refine And.intro (And.intro (by omega) (by omega)) ?_
              exact nx _ (by rw [ecn, if_pos h4])
          · intro h3
            refine And.intro (And.intro (by omega) (by omega)) ?_
            refine And.intro (And.intro (by omega) (by omega)) ?_
            have h4 : rk_pt M i k ≠ 0 := fun q => h3 (by unfold mo_bf; rw [if_pos q])
            exact nx _ (by rw [ecn, if_neg h4, if_pos (by rw [ept, ← mo_bf_r hRi hRk h4]; exact h3)])
  refine hG 10 _ _ _ _ _ rfl ?_
  exact lp 0 (Nat.zero_le _)
def mo_re (M : rk_M) (s k w : Int) : Int := if w < 4 then rf_g (vw M) s w k else rf_pl (vw M) s k
def pr_mo_result (M : rk_M) (s k w : Int) : Prop := mo_po M s k ∧ 0 ≤ w ∧ w < 5
def po_mo_result (M : rk_M) (s k w : Int) (z : rk_Z) (M' : rk_M) : Prop := z = rk_one (mo_re M s k w) ∧ M' = M
def pp_mo_result (as : List rk_V) (M : rk_M) : Prop := as = [rk_r 30 0 0, rk_i (rk_ai as 1), rk_i (rk_ai as 2), rk_i (rk_ai as 3)] ∧ pr_mo_result M (rk_ai as 1) (rk_ai as 2) (rk_ai as 3)
def qq_mo_result (as : List rk_V) (M : rk_M) (z : rk_Z) (M' : rk_M) : Prop := po_mo_result M (rk_ai as 1) (rk_ai as 2) (rk_ai as 3) z M'
set_option maxHeartbeats 1000000 in
set_option maxRecDepth 20000 in
theorem c_mo_result (l : Launch) : rk_Sp l rk_cs yn_mo_result (.code yn_mo_result prog_5_method_27_code 4 (some .int)) 3 pp_mo_result qq_mo_result 0 := by
  refine rk_mk (kc := kc_mo_result) (ft := ft_mo) (ca := [(2 * 115, (3, pp_mo_placeOf, qq_mo_placeOf, 0))]) (th := []) (stops := []) (rt := 1) ck_mo_result ftc_mo (List.forall_mem_cons.mpr ⟨rk_ckV (n := 2) (c_mo_placeOf l) ww_mo_placeOf lk_mo_115 (by decide) (by decide) (by decide) (by decide +kernel) (fun as M h => ⟨_, _, _, _, h.1, rk_rcv_mo⟩), fun _ h => absurd h List.not_mem_nil⟩) (fun _ h => absurd h List.not_mem_nil) (Or.inr (Or.inl ⟨rfl, rfl⟩)) (by decide +kernel) (fun as M h => by rw [h.1]; exact ⟨Nat.le_of_ble_eq_true rfl, rk_nlok rfl⟩) ?_
  intro L as M G hp hrg hG
  obtain ⟨has, hP⟩ := hp
  generalize rk_ai as 1 = s at has hP
  generalize rk_ai as 2 = k at has hP
  generalize rk_ai as 3 = w at has hP
  subst has
  obtain ⟨hpo, hw0, hw1⟩ := hP
  obtain ⟨hm, hk0, hk1, hst, hrs⟩ := id hpo
  have hsk := hm.sk
  refine hG 30 _ _ _ _ _ rfl ?_
  refine And.intro ?_ ?_
  · intro h
    refine And.intro (And.intro rfl (show pr_mo_placeOf M s k from hpo)) (And.intro (Nat.le_refl _) ?_)
    intro z Mz hq
    have hz : z = rk_one (rf_pl (vw M) s k) := hq.1
    have hM : Mz = M := hq.2
    subst z Mz
    clear hq
    refine And.intro (And.intro ?_ rfl) (Nat.le_refl _)
    show rk_one _ = rk_one (mo_re M s k w)
    unfold mo_re
    rw [if_neg (by omega)]
  · intro h
    refine And.intro (And.intro (by omega) (by omega)) ?_
    refine And.intro (And.intro (by omega) (by omega)) ?_
    refine And.intro (And.intro (by omega) (by show _ < (40 : Int); omega)) ?_
    refine And.intro (And.intro ?_ rfl) (Nat.le_refl _)
    show rk_one _ = rk_one (mo_re M s k w)
    unfold mo_re
    rw [if_pos h, hrs k hk0 hk1 hst w hw0 h]
def mo_cl (M : rk_M) (n m : Int) : rk_M := fun t o r i => if o = 0 ∧ r = 0 then (if (t = 31 ∨ t = 32 ∨ t = 33) ∧ 0 ≤ i ∧ i < n then 0 else if t = 34 ∧ 0 ≤ i ∧ i < 60 ∧ i < n then 0 else if t = 35 ∧ 0 ≤ i ∧ i < 27 ∧ i < n then 0 else if t = 39 ∧ 0 ≤ i ∧ i < 10 ∧ i < n then 3
    else if t = 36 ∧ 0 ≤ i ∧ i < m then (if i = 0 then 0 else 1) else if t = 37 ∧ 0 ≤ i ∧ i < m then (if i = 0 then 5 else 10) else if t = 38 ∧ 0 ≤ i ∧ i < m then 0 else M t o r i) else M t o r i
theorem mo_cl_0 (M : rk_M) : mo_cl M 0 0 = M := by
  funext t o r i
  unfold mo_cl
  split
  · rw [if_neg (by omega), if_neg (by omega), if_neg (by omega), if_neg (by omega), if_neg (by omega), if_neg (by omega), if_neg (by omega)]
  · rfl
theorem mo_cl_s (M : rk_M) (n : Nat) (a b c : Int) (ha : 0 ≤ a ∧ a < 60 ∧ (a = n ∨ 60 ≤ n)) (hb : 0 ≤ b ∧ b < 27 ∧ (b = n ∨ 27 ≤ n)) (hc : 0 ≤ c ∧ c < 10 ∧ (c = n ∨ 10 ≤ n)) :
    rk_up (rk_up (rk_up (rk_up (rk_up (rk_up (mo_cl M n 0) 31 0 0 n 0) 32 0 0 n 0) 33 0 0 n 0) 34 0 0 a 0) 35 0 0 b 0) 39 0 0 c 3 = mo_cl M ((n + 1 : Nat) : Int) 0 := by
  funext t o r i
  unfold rk_up mo_cl
  by_cases ho : o = 0 ∧ r = 0
  · obtain ⟨rfl, rfl⟩ := ho
    by_cases h31 : t = 31
    · subst h31; simp; repeat' split
      all_goals first | rfl | omega
    by_cases h32 : t = 32
    · subst h32; simp; repeat' split
      all_goals first | rfl | omega
    by_cases h33 : t = 33
    · subst h33; simp; repeat' split
      all_goals first | rfl | omega
    by_cases h34 : t = 34
    · subst h34; simp; repeat' split
      all_goals first | rfl | omega
    by_cases h35 : t = 35
    · subst h35; simp; repeat' split
      all_goals first | rfl | omega
    by_cases h39 : t = 39
    · subst h39; simp; repeat' split
      all_goals first | rfl | omega
    simp [h31, h32, h33, h34, h35, h39]
  · have h1 : ∀ q w : Prop, ¬ (q ∧ o = 0 ∧ r = 0 ∧ w) := fun q w z => ho ⟨z.2.1, z.2.2.1⟩
    rw [if_neg (h1 _ _), if_neg (h1 _ _), if_neg (h1 _ _), if_neg (h1 _ _), if_neg (h1 _ _), if_neg (h1 _ _), if_neg ho, if_neg ho]
theorem mo_cl_t (M : rk_M) (n : Nat) (x y : Int) (hx : x = if n = 0 then 0 else 1) (hy : y = if n = 0 then 5 else 10) : rk_up (rk_up (rk_up (mo_cl M 270 n) 36 0 0 n x) 37 0 0 n y) 38 0 0 n 0 = mo_cl M 270 ((n + 1 : Nat) : Int) := by
  funext t o r i
  unfold rk_up mo_cl
  by_cases ho : o = 0 ∧ r = 0
  · obtain ⟨rfl, rfl⟩ := ho
    by_cases h36 : t = 36
    · subst h36; simp; repeat' split
      all_goals first | rfl | omega | (subst hx; split <;> omega)
    by_cases h37 : t = 37
    · subst h37; simp; repeat' split
      all_goals first | rfl | omega | (subst hy; split <;> omega)
    by_cases h38 : t = 38
    · subst h38; simp; repeat' split
      all_goals first | rfl | omega
    simp [h36, h37, h38]
  · have h1 : ∀ q w : Prop, ¬ (q ∧ o = 0 ∧ r = 0 ∧ w) := fun q w z => ho ⟨z.2.1, z.2.2.1⟩
    rw [if_neg (h1 _ _), if_neg (h1 _ _), if_neg (h1 _ _), if_neg ho, if_neg ho]
def pr_mo_clear (M : rk_M) : Prop := True
def po_mo_clear (M : rk_M) (z : rk_Z) (M' : rk_M) : Prop := z = .inl none ∧ M' = mo_cl M 270 3
def pp_mo_clear (as : List rk_V) (M : rk_M) : Prop := as = [rk_r 30 0 0] ∧ pr_mo_clear M
def qq_mo_clear (as : List rk_V) (M : rk_M) (z : rk_Z) (M' : rk_M) : Prop := po_mo_clear M z M'
set_option maxHeartbeats 1000000 in
set_option maxRecDepth 20000 in
theorem c_mo_clear (l : Launch) : rk_Sp l rk_cs yn_mo_clear (.code yn_mo_clear prog_5_method_4_code 2 none) 0 pp_mo_clear qq_mo_clear 0 := by
  refine rk_mk (kc := kc_mo_clear) (ft := ft_mo) (ca := []) (th := []) (stops := [2, 68]) (rt := 0) ck_mo_clear ftc_mo (fun _ h => absurd h List.not_mem_nil) (fun _ h => absurd h List.not_mem_nil) (Or.inl ⟨rfl, rfl⟩) (by decide +kernel) (fun as M h => by rw [h.1]; exact ⟨Nat.le_of_ble_eq_true rfl, rk_nlok rfl⟩) ?_
  intro L as M G hp hrg hG
  obtain ⟨has, hP⟩ := hp
  subst has
  have lp2 := rk_loop (P := fun i => G (mo_cl M 270 i) 68 [rk_r 30 0 0, rk_i i] [] 0) 3 ?_ 0 (Nat.zero_le _)
  have lp1 := rk_loop (P := fun i => G (mo_cl M i 0) 2 [rk_r 30 0 0, rk_i i] [] 0) 270 ?_ 0 (Nat.zero_le _)
  · rw [show ((0 : Nat) : Int) = 0 from rfl, mo_cl_0] at lp1
    refine hG 10 _ _ _ _ _ rfl ?_
    exact lp1
  · intro i hi hn
    refine hG 60 _ _ _ _ _ rfl ?_
    refine And.intro ?_ ?_
    · intro h
      refine rk_gto lp2 ?_ rfl rfl
      rw [show (i : Int) = 270 by omega]; rfl
    · intro h
      refine And.intro (And.intro (by omega) (by show _ < (270 : Int); omega)) ?_
      refine And.intro (Or.inl rfl) ?_
      refine And.intro (And.intro (by omega) (by show _ < (270 : Int); omega)) ?_
      refine And.intro (And.intro (by omega) (by show _ < (270 : Int); omega)) ?_
      refine And.intro (And.intro (by omega) (by omega)) ?_
      refine And.intro (And.intro (by omega) (by show _ < (60 : Int); omega)) ?_
      refine And.intro (And.intro (by omega) (by omega)) ?_
      refine And.intro (And.intro (by omega) (by show _ < (27 : Int); omega)) ?_
      refine And.intro (Or.inl rfl) ?_
      refine And.intro (And.intro (by omega) (by omega)) ?_
      refine And.intro (And.intro (by omega) (by show _ < (10 : Int); omega)) ?_
      refine And.intro (And.intro (by omega) (by omega)) ?_
      refine rk_gto (hn (by omega)) (mo_cl_s M i _ _ _ ?_ ?_ ?_) rfl rfl
      all_goals omega
  · intro i hi hn
    refine hG 60 _ _ _ _ _ rfl ?_
    refine And.intro ?_ ?_
    · intro h
      refine And.intro rfl (And.intro (And.intro rfl ?_) (Nat.le_refl _))
      rw [show (i : Int) = 3 by omega]
    · intro h
      refine And.intro ?_ ?_
      · intro h1
        refine And.intro (And.intro (by omega) (by show _ < (3 : Int); omega)) ?_
        refine And.intro (fun _ => ?_) (fun q => absurd q h1)
        refine And.intro (And.intro (by omega) (by show _ < (3 : Int); omega)) ?_
        refine And.intro (And.intro (by omega) (by show _ < (3 : Int); omega)) ?_
        refine And.intro (Or.inl rfl) ?_
        refine And.intro (And.intro (by omega) (by omega)) ?_
        refine rk_gto (hn (by omega)) (mo_cl_t M i _ _ ?_ ?_) rfl rfl
        · rw [if_neg (by omega)]
        · rw [if_neg (by omega)]
      · intro h1
        refine And.intro (And.intro (by omega) (by show _ < (3 : Int); omega)) ?_
        refine And.intro (fun q => absurd h1 q) (fun _ => ?_)
        refine And.intro (And.intro (by omega) (by show _ < (3 : Int); omega)) ?_
        refine And.intro (And.intro (by omega) (by show _ < (3 : Int); omega)) ?_
        refine And.intro (Or.inl rfl) ?_
        refine And.intro (And.intro (by omega) (by omega)) ?_
        refine rk_gto (hn (by omega)) (mo_cl_t M i _ _ ?_ ?_) rfl rfl
        · rw [if_pos (by omega)]
        · rw [if_pos (by omega)]
def pr_mo_event (M : rk_M) (sk ju : Int) : Prop := True
def po_mo_event (M : rk_M) (sk ju : Int) (z : rk_Z) (M' : rk_M) : Prop := z = .inl none ∧ ((¬ (2 ≤ sk ∧ sk ≤ 10 ∧ 3 ≤ ju ∧ ju ≤ 9) ∧ M' = rk_up M 30 0 0 0 1) ∨ ((2 ≤ sk ∧ sk ≤ 10 ∧ 3 ≤ ju ∧ ju ≤ 9) ∧ M' = mo_cl (rk_up (rk_up (rk_up M 30 0 0 0 0) 30 0 0 1 sk) 30 0 0 2 ju) 270 3))
def pp_mo_event (as : List rk_V) (M : rk_M) : Prop := as = [rk_r 30 0 0, rk_i (rk_ai as 1), rk_i (rk_ai as 2)] ∧ pr_mo_event M (rk_ai as 1) (rk_ai as 2)
def qq_mo_event (as : List rk_V) (M : rk_M) (z : rk_Z) (M' : rk_M) : Prop := po_mo_event M (rk_ai as 1) (rk_ai as 2) z M'
set_option maxHeartbeats 1000000 in
set_option maxRecDepth 20000 in
theorem c_mo_event (l : Launch) : rk_Sp l rk_cs yn_mo_event (.code yn_mo_event prog_5_method_5_code 3 none) 1 pp_mo_event qq_mo_event 0 := by
  refine rk_mk (kc := kc_mo_event) (ft := ft_mo) (ca := [(2 * 66, (2, pp_mo_refused, qq_mo_refused, 0)), (2 * 60, (1, pp_mo_clear, qq_mo_clear, 0))]) (th := []) (stops := [28]) (rt := 0) ck_mo_event ftc_mo (List.forall_mem_cons.mpr ⟨rk_ckV (n := 1) (c_mo_refused l) ww_mo_refused lk_mo_66 (by decide) (by decide) (by decide) (by decide +kernel) (fun as M h => ⟨_, _, _, _, h.1, rk_rcv_mo⟩), List.forall_mem_cons.mpr ⟨rk_ckV (n := 0) (c_mo_clear l) ww_mo_clear lk_mo_60 (by decide) (by decide) (by decide) (by decide +kernel) (fun as M h => ⟨_, _, _, _, h.1, rk_rcv_mo⟩), fun _ h => absurd h List.not_mem_nil⟩⟩) (fun _ h => absurd h List.not_mem_nil) (Or.inl ⟨rfl, rfl⟩) (by decide +kernel) (fun as M h => by rw [h.1]; exact ⟨Nat.le_of_ble_eq_true rfl, rk_nlok rfl⟩) ?_
  intro L as M G hp hrg hG
  obtain ⟨has, hP⟩ := hp
  generalize rk_ai as 1 = sk at has hP
  generalize rk_ai as 2 = ju at has hP
  subst has
  have f28 : ∀ w : Int, (w = 1 ∧ ¬ (2 ≤ sk ∧ sk ≤ 10 ∧ 3 ≤ ju ∧ ju ≤ 9)) ∨ (w = 0 ∧ (2 ≤ sk ∧ sk ≤ 10 ∧ 3 ≤ ju ∧ ju ≤ 9)) → G M 28 [rk_r 30 0 0, rk_i sk, rk_i ju] [rk_i w, rk_r 30 0 0] 0 := by
    intro w hw
    refine hG 40 _ _ _ _ _ rfl ?_
    refine And.intro (And.intro rfl (show pr_mo_refused M w from trivial)) (And.intro (Nat.le_refl _) ?_)
    intro z Mz hq
    have hz : z = rk_one (if 0 < w then 1 else 0) := hq.1
    have hM : Mz = rk_up M 30 0 0 0 w := hq.2
    subst z Mz
    clear hq
    refine And.intro ?_ ?_
    · intro h
      have c := rk_b0 h
      have hw0 : w = 0 := by omega
      subst hw0
      refine And.intro (And.intro rfl (show pr_mo_clear (rk_up (rk_up (rk_up M 30 0 0 0 0) 30 0 0 1 sk) 30 0 0 2 ju) from trivial)) (And.intro (Nat.le_refl _) ?_)
      intro z Mz hq
      have hz : z = .inl none := hq.1
      have hM : Mz = mo_cl (rk_up (rk_up (rk_up M 30 0 0 0 0) 30 0 0 1 sk) 30 0 0 2 ju) 270 3 := hq.2
      subst z Mz
      clear hq
      refine And.intro rfl (And.intro (And.intro rfl (Or.inr ⟨?_, rfl⟩)) (Nat.le_refl _))
      show 2 ≤ sk ∧ sk ≤ 10 ∧ 3 ≤ ju ∧ ju ≤ 9
      omega
    · intro h
      have c := rk_b1 h
      have hw0 : w = 1 := by omega
      subst hw0
      refine And.intro rfl (And.intro (And.intro rfl (Or.inl ⟨?_, rfl⟩)) (Nat.le_refl _))
      show ¬ (2 ≤ sk ∧ sk ≤ 10 ∧ 3 ≤ ju ∧ ju ≤ 9)
      omega
  refine hG 40 _ _ _ _ _ rfl ?_
  repeat' (first | refine And.intro ?_ ?_ | intro _)
  all_goals exact f28 _ (by omega)
end
section
/-! Contracts of the reference: the calls that change, and those that ask -/
def pr_mo_segment (M : rk_M) (s kd fa : Int) : Prop := True
def po_mo_segment (M : rk_M) (s kd fa : Int) (z : rk_Z) (M' : rk_M) : Prop := z = .inl none ∧ ((¬ (0 ≤ s ∧ s < 3) ∧ M' = rk_up M 30 0 0 0 1) ∨ ((0 ≤ s ∧ s < 3) ∧ ¬ ((kd = 0 ∨ kd = 1) ∧ 1 ≤ fa ∧ fa ≤ 20) ∧ M' = rk_up M 30 0 0 0 2) ∨ ((0 ≤ s ∧ s < 3) ∧ ((kd = 0 ∨ kd = 1) ∧ 1 ≤ fa ∧ fa ≤ 20) ∧ M 38 0 0 s ≠ 0 ∧ M' = rk_up M 30 0 0 0 3) ∨ ((0 ≤ s ∧ s < 3) ∧ ((kd = 0 ∨ kd = 1) ∧ 1 ≤ fa ∧ fa ≤ 20) ∧ M 38 0 0 s = 0 ∧ M' = rk_up (rk_up (rk_up M 30 0 0 0 0) 36 0 0 s kd) 37 0 0 s fa))
def pp_mo_segment (as : List rk_V) (M : rk_M) : Prop := as = [rk_r 30 0 0, rk_i (rk_ai as 1), rk_i (rk_ai as 2), rk_i (rk_ai as 3)] ∧ pr_mo_segment M (rk_ai as 1) (rk_ai as 2) (rk_ai as 3)
def qq_mo_segment (as : List rk_V) (M : rk_M) (z : rk_Z) (M' : rk_M) : Prop := po_mo_segment M (rk_ai as 1) (rk_ai as 2) (rk_ai as 3) z M'
set_option maxHeartbeats 1000000 in
set_option maxRecDepth 20000 in
theorem c_mo_segment (l : Launch) : rk_Sp l rk_cs yn_mo_segment (.code yn_mo_segment prog_5_method_10_code 5 none) 1 pp_mo_segment qq_mo_segment 0 := by
  refine rk_mk (kc := kc_mo_segment) (ft := ft_mo) (ca := [(2 * 70 + 1, (1, pp_mo_isSegment, qq_mo_isSegment, 0)), (2 * 66, (2, pp_mo_refused, qq_mo_refused, 0))]) (th := []) (stops := [27, 62]) (rt := 0) ck_mo_segment ftc_mo (List.forall_mem_cons.mpr ⟨rk_ckS (n := 1) (c_mo_isSegment l) ww_mo_isSegment lk_mo_70 (by decide) (by decide) (by decide) (by decide +kernel), List.forall_mem_cons.mpr ⟨rk_ckV (n := 1) (c_mo_refused l) ww_mo_refused lk_mo_66 (by decide) (by decide) (by decide) (by decide +kernel) (fun as M h => ⟨_, _, _, _, h.1, rk_rcv_mo⟩), fun _ h => absurd h List.not_mem_nil⟩⟩) (fun _ h => absurd h List.not_mem_nil) (Or.inl ⟨rfl, rfl⟩) (by decide +kernel) (fun as M h => by rw [h.1]; exact ⟨Nat.le_of_ble_eq_true rfl, rk_nlok rfl⟩) ?_
  intro L as M G hp hrg hG
  obtain ⟨has, hP⟩ := hp
  generalize rk_ai as 1 = s at has hP
  generalize rk_ai as 2 = kd at has hP
  generalize rk_ai as 3 = fa at has hP
  subst has
  have f62 : ∀ (w : Int) (x4 : rk_V), (w = 1 ∧ ¬ (0 ≤ s ∧ s < 3)) ∨ (w = 2 ∧ (0 ≤ s ∧ s < 3) ∧ ¬ ((kd = 0 ∨ kd = 1) ∧ 1 ≤ fa ∧ fa ≤ 20)) ∨ (w = 3 ∧ (0 ≤ s ∧ s < 3) ∧ ((kd = 0 ∨ kd = 1) ∧ 1 ≤ fa ∧ fa ≤ 20) ∧ M 38 0 0 s ≠ 0) ∨ (w = 0 ∧ (0 ≤ s ∧ s < 3) ∧ ((kd = 0 ∨ kd = 1) ∧ 1 ≤ fa ∧ fa ≤ 20) ∧ M 38 0 0 s = 0) → G M 62 [rk_r 30 0 0, rk_i s, rk_i kd, rk_i fa, x4] [rk_i w, rk_r 30 0 0] 0 := by
    intro w x4 hw
    refine hG 40 _ _ _ _ _ rfl ?_
    refine And.intro (And.intro rfl (show pr_mo_refused M w from trivial)) (And.intro (Nat.le_refl _) ?_)
    intro z Mz hq
    have hz : z = rk_one (if 0 < w then 1 else 0) := hq.1
    have hM : Mz = rk_up M 30 0 0 0 w := hq.2
    subst z Mz
    clear hq
    refine And.intro ?_ ?_
    · intro h
      have c := rk_b1 h
      refine And.intro rfl (And.intro (And.intro rfl ?_) (Nat.le_refl _))
      rcases hw with ⟨rfl, h1⟩ | ⟨rfl, h1, h2⟩ | ⟨rfl, h1, h2, h3⟩ | ⟨rfl, h1⟩
      · exact Or.inl ⟨h1, rfl⟩
      · exact Or.inr (Or.inl ⟨h1, h2, rfl⟩)
      · exact Or.inr (Or.inr (Or.inl ⟨h1, h2, h3, rfl⟩))
      · omega
    · intro h
      have c := rk_b0 h
      rcases hw with ⟨rfl, h1⟩ | ⟨rfl, h1, h2⟩ | ⟨rfl, h1, h2, h3⟩ | ⟨rfl, h1, h2, h3⟩
      · omega
      · omega
      · omega
      refine And.intro (And.intro (by omega) (by show _ < (3 : Int); omega)) ?_
      refine And.intro (And.intro (by omega) (by show _ < (3 : Int); omega)) ?_
      exact And.intro rfl (And.intro (And.intro rfl (Or.inr (Or.inr (Or.inr ⟨h1, h2, h3, rfl⟩)))) (Nat.le_refl _))
  have f27 : ∀ v : Int, (v = 1 ∧ ((kd = 0 ∨ kd = 1) ∧ 1 ≤ fa ∧ fa ≤ 20)) ∨ (v = 0 ∧ ¬ ((kd = 0 ∨ kd = 1) ∧ 1 ≤ fa ∧ fa ≤ 20)) → G M 27 [rk_r 30 0 0, rk_i s, rk_i kd, rk_i fa, rk_i v] [] 0 := by
    intro v hv
    refine hG 40 _ _ _ _ _ rfl ?_
    refine And.intro (And.intro rfl (show pr_mo_isSegment M s from trivial)) (And.intro (Nat.le_refl _) ?_)
    intro z Mz hq
    have hz : z = rk_one (if 0 ≤ s ∧ s < 3 then 1 else 0) := hq.1
    have hM : Mz = M := hq.2
    subst z Mz
    clear hq
    refine And.intro ?_ ?_
    · intro h
      have c := rk_b1 h
      refine And.intro ?_ ?_
      · intro h1
        refine And.intro (And.intro (by omega) (by show _ < (3 : Int); omega)) ?_
        refine And.intro ?_ ?_
        · intro h2
          exact f62 _ _ (by omega)
        · intro h2
          exact f62 _ _ (by omega)
      · intro h1
        exact f62 _ _ (by omega)
    · intro h
      have c := rk_b0 h
      exact f62 _ _ (by omega)
  refine hG 40 _ _ _ _ _ rfl ?_
  repeat' (first | refine And.intro ?_ ?_ | intro _)
  all_goals exact f27 _ (by omega)
def mo_mk (M : rk_M) (n f g : Int) : rk_M := rk_up (rk_up (rk_up M 31 0 0 n 1) 32 0 0 n f) 33 0 0 n g
def pr_mo_mark (M : rk_M) (s j k f g : Int) : Prop := M 30 0 0 1 ≤ 10 ∧ M 30 0 0 2 ≤ 9
def po_mo_mark (M : rk_M) (s j k f g : Int) (z : rk_Z) (M' : rk_M) : Prop := z = .inl none ∧ ((¬ ((0 ≤ s ∧ s < 3) ∧ (0 ≤ j ∧ j < M 30 0 0 2) ∧ 0 ≤ k ∧ k < M 30 0 0 1) ∧ M' = rk_up M 30 0 0 0 1) ∨ (((0 ≤ s ∧ s < 3) ∧ (0 ≤ j ∧ j < M 30 0 0 2) ∧ 0 ≤ k ∧ k < M 30 0 0 1) ∧ ¬ ((0 ≤ f ∧ f ≤ 60) ∧ 0 ≤ g ∧ g ≤ 60) ∧ M' = rk_up M 30 0 0 0 2) ∨ (((0 ≤ s ∧ s < 3) ∧ (0 ≤ j ∧ j < M 30 0 0 2) ∧ 0 ≤ k ∧ k < M 30 0 0 1) ∧ ((0 ≤ f ∧ f ≤ 60) ∧ 0 ≤ g ∧ g ≤ 60) ∧ M 38 0 0 s ≠ 0 ∧ M' = rk_up M 30 0 0 0 3) ∨ (((0 ≤ s ∧ s < 3) ∧ (0 ≤ j ∧ j < M 30 0 0 2) ∧ 0 ≤ k ∧ k < M 30 0 0 1) ∧ ((0 ≤ f ∧ f ≤ 60) ∧ 0 ≤ g ∧ g ≤ 60) ∧ M 38 0 0 s = 0 ∧ M' = mo_mk (rk_up M 30 0 0 0 0) (10 * (9 * s + j) + k) f g))
def pp_mo_mark (as : List rk_V) (M : rk_M) : Prop := as = [rk_r 30 0 0, rk_i (rk_ai as 1), rk_i (rk_ai as 2), rk_i (rk_ai as 3), rk_i (rk_ai as 4), rk_i (rk_ai as 5)] ∧ pr_mo_mark M (rk_ai as 1) (rk_ai as 2) (rk_ai as 3) (rk_ai as 4) (rk_ai as 5)
def qq_mo_mark (as : List rk_V) (M : rk_M) (z : rk_Z) (M' : rk_M) : Prop := po_mo_mark M (rk_ai as 1) (rk_ai as 2) (rk_ai as 3) (rk_ai as 4) (rk_ai as 5) z M'
set_option maxHeartbeats 1000000 in
set_option maxRecDepth 20000 in
theorem c_mo_mark (l : Launch) : rk_Sp l rk_cs yn_mo_mark (.code yn_mo_mark prog_5_method_11_code 7 none) 1 pp_mo_mark qq_mo_mark 0 := by
  refine rk_mk (kc := kc_mo_mark) (ft := ft_mo) (ca := [(2 * 70 + 1, (1, pp_mo_isSegment, qq_mo_isSegment, 0)), (2 * 73, (2, pp_mo_isJudge, qq_mo_isJudge, 0)), (2 * 76, (2, pp_mo_isSkater, qq_mo_isSkater, 0)), (2 * 79 + 1, (1, pp_mo_isNumber, qq_mo_isNumber, 0)), (2 * 66, (2, pp_mo_refused, qq_mo_refused, 0)), (2 * 82, (5, pp_mo_put, qq_mo_put, 0))]) (th := []) (stops := [30, 74]) (rt := 0) ck_mo_mark ftc_mo (List.forall_mem_cons.mpr ⟨rk_ckS (n := 1) (c_mo_isSegment l) ww_mo_isSegment lk_mo_70 (by decide) (by decide) (by decide) (by decide +kernel), List.forall_mem_cons.mpr ⟨rk_ckV (n := 1) (c_mo_isJudge l) ww_mo_isJudge lk_mo_73 (by decide) (by decide) (by decide) (by decide +kernel) (fun as M h => ⟨_, _, _, _, h.1, rk_rcv_mo⟩), List.forall_mem_cons.mpr ⟨rk_ckV (n := 1) (c_mo_isSkater l) ww_mo_isSkater lk_mo_76 (by decide) (by decide) (by decide) (by decide +kernel) (fun as M h => ⟨_, _, _, _, h.1, rk_rcv_mo⟩), List.forall_mem_cons.mpr ⟨rk_ckS (n := 1) (c_mo_isNumber l) ww_mo_isNumber lk_mo_79 (by decide) (by decide) (by decide) (by decide +kernel), List.forall_mem_cons.mpr ⟨rk_ckV (n := 1) (c_mo_refused l) ww_mo_refused lk_mo_66 (by decide) (by decide) (by decide) (by decide +kernel) (fun as M h => ⟨_, _, _, _, h.1, rk_rcv_mo⟩), List.forall_mem_cons.mpr ⟨rk_ckV (n := 4) (c_mo_put l) ww_mo_put lk_mo_82 (by decide) (by decide) (by decide) (by decide +kernel) (fun as M h => ⟨_, _, _, _, h.1, rk_rcv_mo⟩), fun _ h => absurd h List.not_mem_nil⟩⟩⟩⟩⟩⟩) (fun _ h => absurd h List.not_mem_nil) (Or.inl ⟨rfl, rfl⟩) (by decide +kernel) (fun as M h => by rw [h.1]; exact ⟨Nat.le_of_ble_eq_true rfl, rk_nlok rfl⟩) ?_
  intro L as M G hp hrg hG
  obtain ⟨has, hP⟩ := hp
  generalize rk_ai as 1 = s at has hP
  generalize rk_ai as 2 = j at has hP
  generalize rk_ai as 3 = k at has hP
  generalize rk_ai as 4 = f at has hP
  generalize rk_ai as 5 = g at has hP
  subst has
  obtain ⟨hsk, hju⟩ := hP
  have f74 : ∀ (w : Int) (x6 : rk_V), (w = 1 ∧ ¬ ((0 ≤ s ∧ s < 3) ∧ (0 ≤ j ∧ j < M 30 0 0 2) ∧ 0 ≤ k ∧ k < M 30 0 0 1)) ∨ (w = 2 ∧ ((0 ≤ s ∧ s < 3) ∧ (0 ≤ j ∧ j < M 30 0 0 2) ∧ 0 ≤ k ∧ k < M 30 0 0 1) ∧ ¬ ((0 ≤ f ∧ f ≤ 60) ∧ 0 ≤ g ∧ g ≤ 60)) ∨ (w = 3 ∧ ((0 ≤ s ∧ s < 3) ∧ (0 ≤ j ∧ j < M 30 0 0 2) ∧ 0 ≤ k ∧ k < M 30 0 0 1) ∧ ((0 ≤ f ∧ f ≤ 60) ∧ 0 ≤ g ∧ g ≤ 60) ∧ M 38 0 0 s ≠ 0) ∨ (w = 0 ∧ ((0 ≤ s ∧ s < 3) ∧ (0 ≤ j ∧ j < M 30 0 0 2) ∧ 0 ≤ k ∧ k < M 30 0 0 1) ∧ ((0 ≤ f ∧ f ≤ 60) ∧ 0 ≤ g ∧ g ≤ 60) ∧ M 38 0 0 s = 0) → G M 74 [rk_r 30 0 0, rk_i s, rk_i j, rk_i k, rk_i f, rk_i g, x6] [rk_i w, rk_r 30 0 0] 0 := by
    intro w x4 hw
    refine hG 40 _ _ _ _ _ rfl ?_
    refine And.intro (And.intro rfl (show pr_mo_refused M w from trivial)) (And.intro (Nat.le_refl _) ?_)
    intro z Mz hq
    have hz : z = rk_one (if 0 < w then 1 else 0) := hq.1
    have hM : Mz = rk_up M 30 0 0 0 w := hq.2
    subst z Mz
    clear hq
    refine And.intro ?_ ?_
    · intro h
      have c := rk_b1 h
      refine And.intro rfl (And.intro (And.intro rfl ?_) (Nat.le_refl _))
      rcases hw with ⟨rfl, h1⟩ | ⟨rfl, h1, h2⟩ | ⟨rfl, h1, h2, h3⟩ | ⟨rfl, h1⟩
      · exact Or.inl ⟨h1, rfl⟩
      · exact Or.inr (Or.inl ⟨h1, h2, rfl⟩)
      · exact Or.inr (Or.inr (Or.inl ⟨h1, h2, h3, rfl⟩))
      · omega
    · intro h
      have c := rk_b0 h
      rcases hw with ⟨rfl, h1⟩ | ⟨rfl, h1, h2⟩ | ⟨rfl, h1, h2, h3⟩ | ⟨rfl, h1, h2, h3⟩
      · omega
      · omega
      · omega
      refine And.intro (And.intro (by omega) (by omega)) ?_
      refine And.intro (And.intro (by omega) (by omega)) ?_
      refine And.intro (And.intro (by omega) (by omega)) ?_
      refine And.intro (And.intro (by omega) (by omega)) ?_
      refine And.intro (And.intro rfl (show pr_mo_put (rk_up M 30 0 0 0 0) (10 * (9 * s + j) + k) 1 f g from ⟨by omega, by omega, Or.inr rfl⟩)) (And.intro (Nat.le_refl _) ?_)
      intro z Mz hq
      have hz : z = .inl none := hq.1
      have hM : Mz = mo_mk (rk_up M 30 0 0 0 0) (10 * (9 * s + j) + k) f g := hq.2
      subst z Mz
      clear hq
      exact And.intro rfl (And.intro (And.intro rfl (Or.inr (Or.inr (Or.inr ⟨h1, h2, h3, rfl⟩)))) (Nat.le_refl _))
  have f30 : ∀ v : Int, (v = 1 ∧ ((0 ≤ s ∧ s < 3) ∧ (0 ≤ j ∧ j < M 30 0 0 2) ∧ 0 ≤ k ∧ k < M 30 0 0 1)) ∨ (v = 0 ∧ ¬ ((0 ≤ s ∧ s < 3) ∧ (0 ≤ j ∧ j < M 30 0 0 2) ∧ 0 ≤ k ∧ k < M 30 0 0 1)) → G M 30 [rk_r 30 0 0, rk_i s, rk_i j, rk_i k, rk_i f, rk_i g, rk_i v] [] 0 := by
    intro v hv
    refine hG 40 _ _ _ _ _ rfl ?_
    refine And.intro ?_ ?_
    · intro h
      refine And.intro (And.intro rfl (show pr_mo_isNumber M f from trivial)) (And.intro (Nat.le_refl _) ?_)
      intro z Mz hq
      have hz : z = rk_one (if 0 ≤ f ∧ f ≤ 60 then 1 else 0) := hq.1
      have hM : Mz = M := hq.2
      subst z Mz
      clear hq
      refine And.intro ?_ ?_
      · intro h1
        have c1 := rk_b0 h1
        exact f74 _ _ (by omega)
      · intro h1
        have c1 := rk_b1 h1
        refine And.intro (And.intro rfl (show pr_mo_isNumber M g from trivial)) (And.intro (Nat.le_refl _) ?_)
        intro z Mz hq
        have hz : z = rk_one (if 0 ≤ g ∧ g ≤ 60 then 1 else 0) := hq.1
        have hM : Mz = M := hq.2
        subst z Mz
        clear hq
        refine And.intro ?_ ?_
        · intro h2
          have c2 := rk_b1 h2
          refine And.intro (And.intro (by omega) (by show _ < (3 : Int); omega)) ?_
          refine And.intro ?_ ?_
          · intro h3
            exact f74 _ _ (by omega)
          · intro h3
            exact f74 _ _ (by omega)
        · intro h2
          have c2 := rk_b0 h2
          exact f74 _ _ (by omega)
    · intro h
      exact f74 _ _ (by omega)
  refine hG 40 _ _ _ _ _ rfl ?_
  refine And.intro (And.intro rfl (show pr_mo_isSegment M s from trivial)) (And.intro (Nat.le_refl _) ?_)
  intro z Mz hq
  have hz : z = rk_one (if 0 ≤ s ∧ s < 3 then 1 else 0) := hq.1
  have hM : Mz = M := hq.2
  subst z Mz
  clear hq
  refine And.intro ?_ ?_
  · intro h
    have c := rk_b0 h
    exact f30 _ (by omega)
  · intro h
    have c := rk_b1 h
    refine And.intro (And.intro rfl (show pr_mo_isJudge M j from trivial)) (And.intro (Nat.le_refl _) ?_)
    intro z Mz hq
    have hz : z = rk_one (if 0 ≤ j ∧ j < M 30 0 0 2 then 1 else 0) := hq.1
    have hM : Mz = M := hq.2
    subst z Mz
    clear hq
    refine And.intro ?_ ?_
    · intro h1
      have c1 := rk_b0 h1
      exact f30 _ (by omega)
    · intro h1
      have c1 := rk_b1 h1
      refine And.intro (And.intro rfl (show pr_mo_isSkater M k from trivial)) (And.intro (Nat.le_refl _) ?_)
      intro z Mz hq
      have hz : z = rk_one (if 0 ≤ k ∧ k < M 30 0 0 1 then 1 else 0) := hq.1
      have hM : Mz = M := hq.2
      subst z Mz
      clear hq
      refine And.intro ?_ ?_
      · intro h2
        have c2 := rk_b0 h2
        exact f30 _ (by omega)
      · intro h2
        have c2 := rk_b1 h2
        exact f30 _ (by omega)
def pr_mo_deduct (M : rk_M) (s k w t : Int) : Prop := M 30 0 0 1 ≤ 10
def po_mo_deduct (M : rk_M) (s k w t : Int) (z : rk_Z) (M' : rk_M) : Prop := (¬ ((0 ≤ s ∧ s < 3) ∧ (0 ≤ k ∧ k < M 30 0 0 1) ∧ (w = 0 ∨ w = 1)) ∧ z = rk_one 0 ∧ M' = rk_up M 30 0 0 0 1) ∨ (((0 ≤ s ∧ s < 3) ∧ (0 ≤ k ∧ k < M 30 0 0 1) ∧ (w = 0 ∨ w = 1)) ∧ ¬ (0 ≤ t ∧ t ≤ 60) ∧ z = rk_one 0 ∧ M' = rk_up M 30 0 0 0 2) ∨ (((0 ≤ s ∧ s < 3) ∧ (0 ≤ k ∧ k < M 30 0 0 1) ∧ (w = 0 ∨ w = 1)) ∧ (0 ≤ t ∧ t ≤ 60) ∧ M 38 0 0 s ≠ 0 ∧ z = rk_one 0 ∧ M' = rk_up M 30 0 0 0 3) ∨ (((0 ≤ s ∧ s < 3) ∧ (0 ≤ k ∧ k < M 30 0 0 1) ∧ (w = 0 ∨ w = 1)) ∧ (0 ≤ t ∧ t ≤ 60) ∧ M 38 0 0 s = 0 ∧ z = rk_one (M 34 0 0 (2 * (10 * s + k) + w)) ∧ M' = rk_up (rk_up M 30 0 0 0 0) 34 0 0 (2 * (10 * s + k) + w) t)
def pp_mo_deduct (as : List rk_V) (M : rk_M) : Prop := as = [rk_r 30 0 0, rk_i (rk_ai as 1), rk_i (rk_ai as 2), rk_i (rk_ai as 3), rk_i (rk_ai as 4)] ∧ pr_mo_deduct M (rk_ai as 1) (rk_ai as 2) (rk_ai as 3) (rk_ai as 4)
def qq_mo_deduct (as : List rk_V) (M : rk_M) (z : rk_Z) (M' : rk_M) : Prop := po_mo_deduct M (rk_ai as 1) (rk_ai as 2) (rk_ai as 3) (rk_ai as 4) z M'
set_option maxHeartbeats 1000000 in
set_option maxRecDepth 20000 in
theorem c_mo_deduct (l : Launch) : rk_Sp l rk_cs yn_mo_deduct (.code yn_mo_deduct prog_5_method_13_code 8 (some .int)) 1 pp_mo_deduct qq_mo_deduct 0 := by
  refine rk_mk (kc := kc_mo_deduct) (ft := ft_mo) (ca := [(2 * 70 + 1, (1, pp_mo_isSegment, qq_mo_isSegment, 0)), (2 * 76, (2, pp_mo_isSkater, qq_mo_isSkater, 0)), (2 * 79 + 1, (1, pp_mo_isNumber, qq_mo_isNumber, 0)), (2 * 66, (2, pp_mo_refused, qq_mo_refused, 0))]) (th := []) (stops := [31, 67]) (rt := 1) ck_mo_deduct ftc_mo (List.forall_mem_cons.mpr ⟨rk_ckS (n := 1) (c_mo_isSegment l) ww_mo_isSegment lk_mo_70 (by decide) (by decide) (by decide) (by decide +kernel), List.forall_mem_cons.mpr ⟨rk_ckV (n := 1) (c_mo_isSkater l) ww_mo_isSkater lk_mo_76 (by decide) (by decide) (by decide) (by decide +kernel) (fun as M h => ⟨_, _, _, _, h.1, rk_rcv_mo⟩), List.forall_mem_cons.mpr ⟨rk_ckS (n := 1) (c_mo_isNumber l) ww_mo_isNumber lk_mo_79 (by decide) (by decide) (by decide) (by decide +kernel), List.forall_mem_cons.mpr ⟨rk_ckV (n := 1) (c_mo_refused l) ww_mo_refused lk_mo_66 (by decide) (by decide) (by decide) (by decide +kernel) (fun as M h => ⟨_, _, _, _, h.1, rk_rcv_mo⟩), fun _ h => absurd h List.not_mem_nil⟩⟩⟩⟩) (fun _ h => absurd h List.not_mem_nil) (Or.inr (Or.inl ⟨rfl, rfl⟩)) (by decide +kernel) (fun as M h => by rw [h.1]; exact ⟨Nat.le_of_ble_eq_true rfl, rk_nlok rfl⟩) ?_
  intro L as M G hp hrg hG
  obtain ⟨has, hP⟩ := hp
  generalize rk_ai as 1 = s at has hP
  generalize rk_ai as 2 = k at has hP
  generalize rk_ai as 3 = w at has hP
  generalize rk_ai as 4 = t at has hP
  subst has
  have hsk : M 30 0 0 1 ≤ 10 := hP
  have f67 : ∀ (v : Int) (x5 x6 x7 : rk_V), (v = 1 ∧ ¬ ((0 ≤ s ∧ s < 3) ∧ (0 ≤ k ∧ k < M 30 0 0 1) ∧ (w = 0 ∨ w = 1))) ∨ (v = 2 ∧ ((0 ≤ s ∧ s < 3) ∧ (0 ≤ k ∧ k < M 30 0 0 1) ∧ (w = 0 ∨ w = 1)) ∧ ¬ (0 ≤ t ∧ t ≤ 60)) ∨ (v = 3 ∧ ((0 ≤ s ∧ s < 3) ∧ (0 ≤ k ∧ k < M 30 0 0 1) ∧ (w = 0 ∨ w = 1)) ∧ (0 ≤ t ∧ t ≤ 60) ∧ M 38 0 0 s ≠ 0) ∨ (v = 0 ∧ ((0 ≤ s ∧ s < 3) ∧ (0 ≤ k ∧ k < M 30 0 0 1) ∧ (w = 0 ∨ w = 1)) ∧ (0 ≤ t ∧ t ≤ 60) ∧ M 38 0 0 s = 0) → G M 67 [rk_r 30 0 0, rk_i s, rk_i k, rk_i w, rk_i t, x5, x6, x7] [rk_i v, rk_r 30 0 0] 0 := by
    intro v x5 x6 x7 hw
    refine hG 60 _ _ _ _ _ rfl ?_
    refine And.intro (And.intro rfl (show pr_mo_refused M v from trivial)) (And.intro (Nat.le_refl _) ?_)
    intro z Mz hq
    have hz : z = rk_one (if 0 < v then 1 else 0) := hq.1
    have hM : Mz = rk_up M 30 0 0 0 v := hq.2
    subst z Mz
    clear hq
    refine And.intro ?_ ?_
    · intro h
      have c := rk_b0 h
      rcases hw with ⟨rfl, h1⟩ | ⟨rfl, h1, h2⟩ | ⟨rfl, h1, h2, h3⟩ | ⟨rfl, h1, h2, h3⟩
      · omega
      · omega
      · omega
      refine And.intro (And.intro (by omega) (by omega)) ?_
      refine And.intro (And.intro (by omega) (by omega)) ?_
      refine And.intro (And.intro (by omega) (by omega)) ?_
      refine And.intro (And.intro (by omega) (by omega)) ?_
      refine And.intro (And.intro (by omega) (by show _ < (60 : Int); omega)) ?_
      refine And.intro (And.intro (by omega) (by show _ < (60 : Int); omega)) ?_
      refine And.intro (Or.inr (Or.inr (Or.inr ⟨h1, h2, h3, ?_, rfl⟩))) (Nat.le_refl _)
      exact congrArg rk_one (rk_up_off (by omega))
    · intro h
      have c := rk_b1 h
      refine And.intro ?_ (Nat.le_refl _)
      rcases hw with ⟨rfl, h1⟩ | ⟨rfl, h1, h2⟩ | ⟨rfl, h1, h2, h3⟩ | ⟨rfl, h1⟩
      · exact Or.inl ⟨h1, rfl, rfl⟩
      · exact Or.inr (Or.inl ⟨h1, h2, rfl, rfl⟩)
      · exact Or.inr (Or.inr (Or.inl ⟨h1, h2, h3, rfl, rfl⟩))
      · omega
  have f31 : ∀ (v : Int) (x6 x7 : rk_V), (v = 1 ∧ ((0 ≤ s ∧ s < 3) ∧ (0 ≤ k ∧ k < M 30 0 0 1) ∧ (w = 0 ∨ w = 1))) ∨ (v = 0 ∧ ¬ ((0 ≤ s ∧ s < 3) ∧ (0 ≤ k ∧ k < M 30 0 0 1) ∧ (w = 0 ∨ w = 1))) → G M 31 [rk_r 30 0 0, rk_i s, rk_i k, rk_i w, rk_i t, rk_i v, x6, x7] [] 0 := by
    intro v x6 x7 hv
    refine hG 40 _ _ _ _ _ rfl ?_
    refine And.intro ?_ ?_
    · intro h
      refine And.intro (And.intro rfl (show pr_mo_isNumber M t from trivial)) (And.intro (Nat.le_refl _) ?_)
      intro z Mz hq
      have hz : z = rk_one (if 0 ≤ t ∧ t ≤ 60 then 1 else 0) := hq.1
      have hM : Mz = M := hq.2
      subst z Mz
      clear hq
      refine And.intro ?_ ?_
      · intro h1
        have c1 := rk_b1 h1
        refine And.intro (And.intro (by omega) (by show _ < (3 : Int); omega)) ?_
        refine And.intro ?_ ?_
        · intro h3
          exact f67 _ _ _ _ (by omega)
        · intro h3
          exact f67 _ _ _ _ (by omega)
      · intro h1
        have c1 := rk_b0 h1
        exact f67 _ _ _ _ (by omega)
    · intro h
      exact f67 _ _ _ _ (by omega)
  refine hG 40 _ _ _ _ _ rfl ?_
  refine And.intro (And.intro rfl (show pr_mo_isSegment M s from trivial)) (And.intro (Nat.le_refl _) ?_)
  intro z Mz hq
  have hz : z = rk_one (if 0 ≤ s ∧ s < 3 then 1 else 0) := hq.1
  have hM : Mz = M := hq.2
  subst z Mz
  clear hq
  refine And.intro ?_ ?_
  · intro h
    have c := rk_b0 h
    exact f31 _ _ _ (by omega)
  · intro h
    have c := rk_b1 h
    refine And.intro (And.intro rfl (show pr_mo_isSkater M k from trivial)) (And.intro (Nat.le_refl _) ?_)
    intro z Mz hq
    have hz : z = rk_one (if 0 ≤ k ∧ k < M 30 0 0 1 then 1 else 0) := hq.1
    have hM : Mz = M := hq.2
    subst z Mz
    clear hq
    refine And.intro ?_ ?_
    · intro h2
      have c2 := rk_b0 h2
      exact f31 _ _ _ (by omega)
    · intro h2
      have c2 := rk_b1 h2
      repeat' (first | refine And.intro ?_ ?_ | intro _)
      all_goals exact f31 _ _ _ (by omega)
def pr_mo_strike (M : rk_M) (s j b : Int) : Prop := 0 ≤ M 30 0 0 2 ∧ M 30 0 0 2 ≤ 9 ∧ (b = 0 ∨ b = 1)
def po_mo_strike (M : rk_M) (s j b : Int) (z : rk_Z) (M' : rk_M) : Prop := (¬ ((0 ≤ s ∧ s < 3) ∧ 0 ≤ j ∧ j < M 30 0 0 2) ∧ z = rk_one 0 ∧ M' = rk_up M 30 0 0 0 1) ∨ (((0 ≤ s ∧ s < 3) ∧ 0 ≤ j ∧ j < M 30 0 0 2) ∧ (M 38 0 0 s ≠ 0 ∨ (b ≠ 0 ∧ M 35 0 0 (9 * s + j) = 0 ∧ rk_pan M s (M 30 0 0 2).toNat = 3)) ∧ z = rk_one 0 ∧ M' = rk_up M 30 0 0 0 2) ∨ (((0 ≤ s ∧ s < 3) ∧ 0 ≤ j ∧ j < M 30 0 0 2) ∧ ¬ (M 38 0 0 s ≠ 0 ∨ (b ≠ 0 ∧ M 35 0 0 (9 * s + j) = 0 ∧ rk_pan M s (M 30 0 0 2).toNat = 3)) ∧ z = rk_one (rk_pan (rk_up M 35 0 0 (9 * s + j) b) s (M 30 0 0 2).toNat) ∧ M' = rk_up (rk_up M 30 0 0 0 0) 35 0 0 (9 * s + j) b)
def pp_mo_strike (as : List rk_V) (M : rk_M) : Prop := as = [rk_r 30 0 0, rk_i (rk_ai as 1), rk_i (rk_ai as 2), rk_i (rk_ai as 3)] ∧ pr_mo_strike M (rk_ai as 1) (rk_ai as 2) (rk_ai as 3)
def qq_mo_strike (as : List rk_V) (M : rk_M) (z : rk_Z) (M' : rk_M) : Prop := po_mo_strike M (rk_ai as 1) (rk_ai as 2) (rk_ai as 3) z M'
set_option maxHeartbeats 1000000 in
set_option maxRecDepth 20000 in
theorem c_mo_strike (l : Launch) : rk_Sp l rk_cs yn_mo_strike (.code yn_mo_strike prog_5_method_15_code 6 (some .int)) 1 pp_mo_strike qq_mo_strike 0 := by
  refine rk_mk (kc := kc_mo_strike) (ft := ft_mo) (ca := [(2 * 70 + 1, (1, pp_mo_isSegment, qq_mo_isSegment, 0)), (2 * 73, (2, pp_mo_isJudge, qq_mo_isJudge, 0)), (2 * 86, (2, pp_mo_panel, qq_mo_panel, 0)), (2 * 66, (2, pp_mo_refused, qq_mo_refused, 0))]) (th := []) (stops := [22, 61, 90]) (rt := 1) ck_mo_strike ftc_mo (List.forall_mem_cons.mpr ⟨rk_ckS (n := 1) (c_mo_isSegment l) ww_mo_isSegment lk_mo_70 (by decide) (by decide) (by decide) (by decide +kernel), List.forall_mem_cons.mpr ⟨rk_ckV (n := 1) (c_mo_isJudge l) ww_mo_isJudge lk_mo_73 (by decide) (by decide) (by decide) (by decide +kernel) (fun as M h => ⟨_, _, _, _, h.1, rk_rcv_mo⟩), List.forall_mem_cons.mpr ⟨rk_ckV (n := 1) (c_mo_panel l) ww_mo_panel lk_mo_86 (by decide) (by decide) (by decide) (by decide +kernel) (fun as M h => ⟨_, _, _, _, h.1, rk_rcv_mo⟩), List.forall_mem_cons.mpr ⟨rk_ckV (n := 1) (c_mo_refused l) ww_mo_refused lk_mo_66 (by decide) (by decide) (by decide) (by decide +kernel) (fun as M h => ⟨_, _, _, _, h.1, rk_rcv_mo⟩), fun _ h => absurd h List.not_mem_nil⟩⟩⟩⟩) (fun _ h => absurd h List.not_mem_nil) (Or.inr (Or.inl ⟨rfl, rfl⟩)) (by decide +kernel) (fun as M h => by rw [h.1]; exact ⟨Nat.le_of_ble_eq_true rfl, rk_nlok rfl⟩) ?_
  intro L as M G hp hrg hG
  obtain ⟨has, hP⟩ := hp
  generalize rk_ai as 1 = s at has hP
  generalize rk_ai as 2 = j at has hP
  generalize rk_ai as 3 = b at has hP
  subst has
  obtain ⟨hju0, hju, hb⟩ := hP
  have f90 : ∀ (v : Int) (x4 x5 : rk_V), (v = 1 ∧ ¬ ((0 ≤ s ∧ s < 3) ∧ 0 ≤ j ∧ j < M 30 0 0 2)) ∨ (v = 2 ∧ ((0 ≤ s ∧ s < 3) ∧ 0 ≤ j ∧ j < M 30 0 0 2) ∧ (M 38 0 0 s ≠ 0 ∨ (b ≠ 0 ∧ M 35 0 0 (9 * s + j) = 0 ∧ rk_pan M s (M 30 0 0 2).toNat = 3))) ∨ (v = 0 ∧ ((0 ≤ s ∧ s < 3) ∧ 0 ≤ j ∧ j < M 30 0 0 2) ∧ ¬ (M 38 0 0 s ≠ 0 ∨ (b ≠ 0 ∧ M 35 0 0 (9 * s + j) = 0 ∧ rk_pan M s (M 30 0 0 2).toNat = 3))) → G M 90 [rk_r 30 0 0, rk_i s, rk_i j, rk_i b, x4, x5] [rk_i v, rk_r 30 0 0] 0 := by
    intro v x4 x5 hw
    refine hG 60 _ _ _ _ _ rfl ?_
    refine And.intro (And.intro rfl (show pr_mo_refused M v from trivial)) (And.intro (Nat.le_refl _) ?_)
    intro z Mz hq
    have hz : z = rk_one (if 0 < v then 1 else 0) := hq.1
    have hM : Mz = rk_up M 30 0 0 0 v := hq.2
    subst z Mz
    clear hq
    refine And.intro ?_ ?_
    · intro h
      have c := rk_b0 h
      rcases hw with ⟨rfl, h1⟩ | ⟨rfl, h1, h2⟩ | ⟨rfl, h1, h2⟩
      · omega
      · omega
      refine And.intro (And.intro (by omega) (by omega)) ?_
      refine And.intro (And.intro (by omega) (by omega)) ?_
      refine And.intro (And.intro (by omega) (by show _ < (27 : Int); omega)) ?_
      refine And.intro hb ?_
      have e2 : rk_up (rk_up M 30 0 0 0 0) 35 0 0 (9 * s + j) b 30 0 0 2 = M 30 0 0 2 := by rw [rk_up_ne (by omega), rk_up_ne (by omega)]
      have ep : rk_pan (rk_up (rk_up M 30 0 0 0 0) 35 0 0 (9 * s + j) b) s (M 30 0 0 2).toNat = rk_pan (rk_up M 35 0 0 (9 * s + j) b) s (M 30 0 0 2).toNat := by
        refine rk_ct_congr _ (fun q _ => ?_)
        unfold rk_up
        simp
      refine And.intro (And.intro rfl (show pr_mo_panel (rk_up (rk_up M 30 0 0 0 0) 35 0 0 (9 * s + j) b) s from ⟨h1.1.1, h1.1.2, by rw [e2]; exact hju0, by rw [e2]; exact hju⟩)) (And.intro (Nat.le_refl _) ?_)
      intro z Mz hq
      have hz : z = rk_one (rk_pan (rk_up M 35 0 0 (9 * s + j) b) s (M 30 0 0 2).toNat) := hq.1.trans (congrArg rk_one (show rk_pan (rk_up (rk_up M 30 0 0 0 0) 35 0 0 (9 * s + j) b) s (rk_up (rk_up M 30 0 0 0 0) 35 0 0 (9 * s + j) b 30 0 0 2).toNat = _ by rw [e2, ep]))
      have hM : Mz = rk_up (rk_up M 30 0 0 0 0) 35 0 0 (9 * s + j) b := hq.2
      subst z Mz
      clear hq
      exact And.intro (Or.inr (Or.inr ⟨h1, h2, rfl, rfl⟩)) (Nat.le_refl _)
    · intro h
      have c := rk_b1 h
      refine And.intro ?_ (Nat.le_refl _)
      rcases hw with ⟨rfl, h1⟩ | ⟨rfl, h1, h2⟩ | ⟨rfl, h1⟩
      · exact Or.inl ⟨h1, rfl, rfl⟩
      · exact Or.inr (Or.inl ⟨h1, h2, rfl, rfl⟩)
      · omega
  have f61 : ∀ (v u : Int), (v = 1 ∧ ((0 ≤ s ∧ s < 3) ∧ 0 ≤ j ∧ j < M 30 0 0 2) ∧ ((u = 1 ∧ (b ≠ 0 ∧ M 35 0 0 (9 * s + j) = 0 ∧ rk_pan M s (M 30 0 0 2).toNat = 3)) ∨ (u = 0 ∧ ¬ (b ≠ 0 ∧ M 35 0 0 (9 * s + j) = 0 ∧ rk_pan M s (M 30 0 0 2).toNat = 3)))) ∨ (v = 0 ∧ ¬ ((0 ≤ s ∧ s < 3) ∧ 0 ≤ j ∧ j < M 30 0 0 2)) → G M 61 [rk_r 30 0 0, rk_i s, rk_i j, rk_i b, rk_i v, rk_i u] [] 0 := by
    intro v u hv
    refine hG 40 _ _ _ _ _ rfl ?_
    refine And.intro ?_ ?_
    · intro h
      refine And.intro (And.intro (by omega) (by show _ < (3 : Int); omega)) ?_
      refine And.intro ?_ ?_
      · intro h1
        exact f90 _ _ _ (by omega)
      · intro h1
        refine And.intro ?_ ?_
        · intro h2
          exact f90 _ _ _ (by omega)
        · intro h2
          exact f90 _ _ _ (by omega)
    · intro h
      exact f90 _ _ _ (by omega)
  have f22 : ∀ (v : Int) (x5 : rk_V), (v = 1 ∧ ((0 ≤ s ∧ s < 3) ∧ 0 ≤ j ∧ j < M 30 0 0 2)) ∨ (v = 0 ∧ ¬ ((0 ≤ s ∧ s < 3) ∧ 0 ≤ j ∧ j < M 30 0 0 2)) → G M 22 [rk_r 30 0 0, rk_i s, rk_i j, rk_i b, rk_i v, x5] [] 0 := by
    intro v x5 hv
    refine hG 40 _ _ _ _ _ rfl ?_
    refine And.intro ?_ ?_
    · intro h
      exact f61 _ _ (by omega)
    · intro h
      refine And.intro ?_ ?_
      · intro h1
        exact f61 _ _ (by omega)
      · intro h1
        refine And.intro (And.intro (by omega) (by omega)) ?_
        refine And.intro (And.intro (by omega) (by omega)) ?_
        refine And.intro (And.intro (by omega) (by show _ < (27 : Int); omega)) ?_
        refine And.intro ?_ ?_
        · intro h2
          exact f61 _ _ (by omega)
        · intro h2
          refine And.intro (And.intro rfl (show pr_mo_panel M s from ⟨by omega, by omega, hju0, hju⟩)) (And.intro (Nat.le_refl _) ?_)
          intro z Mz hq
          have hz : z = rk_one (rk_pan M s (M 30 0 0 2).toNat) := hq.1
          have hM : Mz = M := hq.2
          subst z Mz
          clear hq
          refine And.intro ?_ ?_
          · intro h3
            exact f61 _ _ (by omega)
          · intro h3
            exact f61 _ _ (by omega)
  refine hG 40 _ _ _ _ _ rfl ?_
  refine And.intro (And.intro rfl (show pr_mo_isSegment M s from trivial)) (And.intro (Nat.le_refl _) ?_)
  intro z Mz hq
  have hz : z = rk_one (if 0 ≤ s ∧ s < 3 then 1 else 0) := hq.1
  have hM : Mz = M := hq.2
  subst z Mz
  clear hq
  refine And.intro ?_ ?_
  · intro h
    have c := rk_b0 h
    exact f22 _ _ (by omega)
  · intro h
    have c := rk_b1 h
    refine And.intro (And.intro rfl (show pr_mo_isJudge M j from trivial)) (And.intro (Nat.le_refl _) ?_)
    intro z Mz hq
    have hz : z = rk_one (if 0 ≤ j ∧ j < M 30 0 0 2 then 1 else 0) := hq.1
    have hM : Mz = M := hq.2
    subst z Mz
    clear hq
    refine And.intro ?_ ?_
    · intro h2
      have c2 := rk_b0 h2
      exact f22 _ _ (by omega)
    · intro h2
      have c2 := rk_b1 h2
      exact f22 _ _ (by omega)
end
section
/-! Contracts of the reference: withdraw, ordinal, placing, step -/
/-- would a withdrawal change a published segment's starters -/
def mo_ch (M : rk_M) (k s : Int) (n : Nat) : Int := rk_ct (fun i => M 38 0 0 i ≠ 0 ∧ ¬ ((i < M 39 0 0 k) ↔ (i < s))) (fun _ => inferInstance) n
def mo_c1 (M : rk_M) (k s : Int) (n : Nat) : Int := if mo_ch M k s n = 0 then 0 else 1
def pr_mo_withdraw (M : rk_M) (k s : Int) : Prop := M 30 0 0 1 ≤ 10
def po_mo_withdraw (M : rk_M) (k s : Int) (z : rk_Z) (M' : rk_M) : Prop := (¬ (0 ≤ k ∧ k < M 30 0 0 1) ∧ z = rk_one 0 ∧ M' = rk_up M 30 0 0 0 1) ∨ ((0 ≤ k ∧ k < M 30 0 0 1) ∧ ¬ (0 ≤ s ∧ s ≤ 3) ∧ z = rk_one 0 ∧ M' = rk_up M 30 0 0 0 2) ∨ ((0 ≤ k ∧ k < M 30 0 0 1) ∧ (0 ≤ s ∧ s ≤ 3) ∧ mo_ch M k s 3 ≠ 0 ∧ z = rk_one 0 ∧ M' = rk_up M 30 0 0 0 3) ∨ ((0 ≤ k ∧ k < M 30 0 0 1) ∧ (0 ≤ s ∧ s ≤ 3) ∧ mo_ch M k s 3 = 0 ∧ z = rk_one (M 39 0 0 k) ∧ M' = rk_up (rk_up M 30 0 0 0 0) 39 0 0 k s)
def pp_mo_withdraw (as : List rk_V) (M : rk_M) : Prop := as = [rk_r 30 0 0, rk_i (rk_ai as 1), rk_i (rk_ai as 2)] ∧ pr_mo_withdraw M (rk_ai as 1) (rk_ai as 2)
def qq_mo_withdraw (as : List rk_V) (M : rk_M) (z : rk_Z) (M' : rk_M) : Prop := po_mo_withdraw M (rk_ai as 1) (rk_ai as 2) z M'
set_option maxHeartbeats 1000000 in
set_option maxRecDepth 20000 in
theorem c_mo_withdraw (l : Launch) : rk_Sp l rk_cs yn_mo_withdraw (.code yn_mo_withdraw prog_5_method_16_code 5 (some .int)) 1 pp_mo_withdraw qq_mo_withdraw 0 := by
  refine rk_mk (kc := kc_mo_withdraw) (ft := ft_mo) (ca := [(2 * 76, (2, pp_mo_isSkater, qq_mo_isSkater, 0)), (2 * 66, (2, pp_mo_refused, qq_mo_refused, 0))]) (th := []) (stops := [5, 49, 60, 63, 67, 75, 110]) (rt := 1) ck_mo_withdraw ftc_mo (List.forall_mem_cons.mpr ⟨rk_ckV (n := 1) (c_mo_isSkater l) ww_mo_isSkater lk_mo_76 (by decide) (by decide) (by decide) (by decide +kernel) (fun as M h => ⟨_, _, _, _, h.1, rk_rcv_mo⟩), List.forall_mem_cons.mpr ⟨rk_ckV (n := 1) (c_mo_refused l) ww_mo_refused lk_mo_66 (by decide) (by decide) (by decide) (by decide +kernel) (fun as M h => ⟨_, _, _, _, h.1, rk_rcv_mo⟩), fun _ h => absurd h List.not_mem_nil⟩⟩) (fun _ h => absurd h List.not_mem_nil) (Or.inr (Or.inl ⟨rfl, rfl⟩)) (by decide +kernel) (fun as M h => by rw [h.1]; exact ⟨Nat.le_of_ble_eq_true rfl, rk_nlok rfl⟩) ?_
  intro L as M G hp hrg hG
  obtain ⟨has, hP⟩ := hp
  generalize rk_ai as 1 = k at has hP
  generalize rk_ai as 2 = s at has hP
  subst has
  have hsk : M 30 0 0 1 ≤ 10 := hP
  have f110 : ∀ (v : Int) (x3 x4 : rk_V), (v = 1 ∧ ¬ (0 ≤ k ∧ k < M 30 0 0 1)) ∨ (v = 2 ∧ (0 ≤ k ∧ k < M 30 0 0 1) ∧ ¬ (0 ≤ s ∧ s ≤ 3)) ∨ (v = 3 ∧ (0 ≤ k ∧ k < M 30 0 0 1) ∧ (0 ≤ s ∧ s ≤ 3) ∧ mo_ch M k s 3 ≠ 0) ∨ (v = 0 ∧ (0 ≤ k ∧ k < M 30 0 0 1) ∧ (0 ≤ s ∧ s ≤ 3) ∧ mo_ch M k s 3 = 0) → G M 110 [rk_r 30 0 0, rk_i k, rk_i s, x3, x4] [rk_i v, rk_r 30 0 0] 0 := by
    intro v x3 x4 hw
    refine hG 60 _ _ _ _ _ rfl ?_
    refine And.intro (And.intro rfl (show pr_mo_refused M v from trivial)) (And.intro (Nat.le_refl _) ?_)
    intro z Mz hq
    have hz : z = rk_one (if 0 < v then 1 else 0) := hq.1
    have hM : Mz = rk_up M 30 0 0 0 v := hq.2
    subst z Mz
    clear hq
    refine And.intro ?_ ?_
    · intro h
      have c := rk_b0 h
      rcases hw with ⟨rfl, h1⟩ | ⟨rfl, h1, h2⟩ | ⟨rfl, h1, h2, h3⟩ | ⟨rfl, h1, h2, h3⟩
      · omega
      · omega
      · omega
      refine And.intro (And.intro (by omega) (by show _ < (10 : Int); omega)) ?_
      refine And.intro (And.intro (by omega) (by show _ < (10 : Int); omega)) ?_
      refine And.intro (Or.inr (Or.inr (Or.inr ⟨h1, h2, h3, ?_, rfl⟩))) (Nat.le_refl _)
      exact congrArg rk_one (rk_up_off (by omega))
    · intro h
      have c := rk_b1 h
      refine And.intro ?_ (Nat.le_refl _)
      rcases hw with ⟨rfl, h1⟩ | ⟨rfl, h1, h2⟩ | ⟨rfl, h1, h2, h3⟩ | ⟨rfl, h1⟩
      · exact Or.inl ⟨h1, rfl, rfl⟩
      · exact Or.inr (Or.inl ⟨h1, h2, rfl, rfl⟩)
      · exact Or.inr (Or.inr (Or.inl ⟨h1, h2, h3, rfl, rfl⟩))
      · omega
  have f75 : ∀ (v : Int) (x4 : rk_V), ((0 ≤ k ∧ k < M 30 0 0 1) → (v = 0 ∧ mo_ch M k s 3 = 0) ∨ (v = 1 ∧ mo_ch M k s 3 ≠ 0)) → G M 75 [rk_r 30 0 0, rk_i k, rk_i s, rk_i v, x4] [] 0 := by
    intro v x4 hv
    refine hG 40 _ _ _ _ _ rfl ?_
    refine And.intro (And.intro rfl (show pr_mo_isSkater M k from trivial)) (And.intro (Nat.le_refl _) ?_)
    intro z Mz hq
    have hz : z = rk_one (if 0 ≤ k ∧ k < M 30 0 0 1 then 1 else 0) := hq.1
    have hM : Mz = M := hq.2
    subst z Mz
    clear hq
    refine And.intro ?_ ?_
    · intro h
      have c := rk_b1 h
      have hv' := hv c
      repeat' (first | refine And.intro ?_ ?_ | intro _)
      all_goals exact f110 _ _ _ (by omega)
    · intro h
      have c := rk_b0 h
      exact f110 _ _ _ (by omega)
  have lp : ∀ i : Nat, i ≤ 3 → G M 5 [rk_r 30 0 0, rk_i k, rk_i s, rk_i (mo_c1 M k s i), rk_i i] [] 0 := by
    refine rk_loop 3 ?_
    intro i hi hnext
    have hb := rk_ct_b (fun i => M 38 0 0 i ≠ 0 ∧ ¬ ((i < M 39 0 0 k) ↔ (i < s))) (fun _ => inferInstance) i
    change 0 ≤ mo_ch M k s i ∧ mo_ch M k s i ≤ i at hb
    have hmo : mo_ch M k s i ≤ mo_ch M k s (i + 1) := rk_ct_mono _ (by omega)
    have n67 : mo_c1 M k s (i + 1) = 0 → i < 3 → G M 67 [rk_r 30 0 0, rk_i k, rk_i s, rk_i (mo_c1 M k s i), rk_i i] [] 0 := by
      intro h h3
      refine hG 20 _ _ _ _ _ rfl ?_
      refine And.intro (And.intro (by omega) (by omega)) ?_
      refine rk_gto (hnext h3) rfl ?_ rfl
      rw [h]; rfl
    have n63 : mo_c1 M k s (i + 1) = 1 → i < 3 → G M 63 [rk_r 30 0 0, rk_i k, rk_i s, rk_i (mo_c1 M k s i), rk_i i] [] 0 := by
      intro h h3
      refine hG 20 _ _ _ _ _ rfl ?_
      refine And.intro (And.intro (by omega) (by omega)) ?_
      refine rk_gto (hnext h3) rfl ?_ rfl
      rw [h]; rfl
    refine hG 60 _ _ _ _ _ rfl ?_
    refine And.intro ?_ ?_
    · intro h
      have hi' : i = 3 := by omega
      subst hi'
      refine f75 _ _ (fun _ => ?_)
      unfold mo_c1
      split
      · exact Or.inl ⟨rfl, by assumption⟩
      · exact Or.inr ⟨rfl, by assumption⟩
    · intro h
      refine And.intro (And.intro rfl (show pr_mo_isSkater M k from trivial)) (And.intro (Nat.le_refl _) ?_)
      intro z Mz hq
      have hz : z = rk_one (if 0 ≤ k ∧ k < M 30 0 0 1 then 1 else 0) := hq.1
      have hM : Mz = M := hq.2
      subst z Mz
      clear hq
      refine And.intro ?_ ?_
      · intro h1
        have c := rk_b0 h1
        exact f75 _ _ (fun q => absurd q c)
      · intro h1
        have c := rk_b1 h1
        refine And.intro ?_ ?_
        · intro h2
          refine n63 ?_ (by omega)
          have hne : mo_ch M k s i ≠ 0 := fun q => h2 (by unfold mo_c1; rw [if_pos q])
          unfold mo_c1
          rw [if_neg (by omega)]
        · intro h2
          have hz0 : mo_ch M k s i = 0 := by
            unfold mo_c1 at h2
            split at h2
            · assumption
            · exact absurd h2 (by decide)
          have eT : (M 38 0 0 i ≠ 0 ∧ ¬ (((i : Int) < M 39 0 0 k) ↔ ((i : Int) < s))) → mo_c1 M k s (i + 1) = 1 := by
            intro q
            have e : mo_ch M k s (i + 1) = mo_ch M k s i + 1 := rk_ct_t q
            unfold mo_c1
            rw [if_neg (by omega)]
          have eF : ¬ (M 38 0 0 i ≠ 0 ∧ ¬ (((i : Int) < M 39 0 0 k) ↔ ((i : Int) < s))) → mo_c1 M k s (i + 1) = 0 := by
            intro q
            have e : mo_ch M k s (i + 1) = mo_ch M k s i := rk_ct_f q
            unfold mo_c1
            rw [if_pos (by omega)]
          refine And.intro (And.intro (by omega) (by show _ < (3 : Int); omega)) ?_
          refine And.intro ?_ ?_
          · intro h3
            exact n67 (eF (fun q => q.1 h3)) (by omega)
          · intro h3
            have g60 : ∀ u v : Int, ((u = 1 ∧ (i : Int) < M 39 0 0 k) ∨ (u = 0 ∧ ¬ (i : Int) < M 39 0 0 k)) → ((v = 1 ∧ (i : Int) < s) ∨ (v = 0 ∧ ¬ (i : Int) < s)) → G M 60 [rk_r 30 0 0, rk_i k, rk_i s, rk_i (mo_c1 M k s i), rk_i i] [rk_i v, rk_i u] 0 := by
              intro u v hu hv
              refine hG 10 _ _ _ _ _ rfl ?_
              refine And.intro ?_ ?_
              · intro h4
                exact n67 (eF (fun q => q.2 (by omega))) (by omega)
              · intro h4
                exact n63 (eT ⟨h3, by omega⟩) (by omega)
            have g49 : ∀ u : Int, ((u = 1 ∧ (i : Int) < M 39 0 0 k) ∨ (u = 0 ∧ ¬ (i : Int) < M 39 0 0 k)) → G M 49 [rk_r 30 0 0, rk_i k, rk_i s, rk_i (mo_c1 M k s i), rk_i i] [rk_i u] 0 := by
              intro u hu
              refine hG 10 _ _ _ _ _ rfl ?_
              refine And.intro ?_ ?_
              · intro h4
                exact g60 _ _ hu (by omega)
              · intro h4
                exact g60 _ _ hu (by omega)
            refine And.intro (And.intro (by omega) (by show _ < (10 : Int); omega)) ?_
            refine And.intro ?_ ?_
            · intro h4
              exact g49 _ (by omega)
            · intro h4
              exact g49 _ (by omega)
  refine hG 10 _ _ _ _ _ rfl ?_
  exact lp 0 (Nat.zero_le _)
/-- all that the calls of the reference need of its memory -/
def mi (M : rk_M) : Prop := (2 ≤ M 30 0 0 1 ∧ M 30 0 0 1 ≤ 10 ∧ 3 ≤ M 30 0 0 2 ∧ M 30 0 0 2 ≤ 9) ∧ (∀ s, 0 ≤ s → s < 3 → mv M s ∧ 0 < rs_pan (vw M) s (M 30 0 0 2).toNat ∧ (M 38 0 0 s ≠ 0 → rs_com (vw M) s ≠ 0) ∧ 1 ≤ M 37 0 0 s ∧ M 37 0 0 s ≤ 20)
theorem mi.congr {M M1 : rk_M} (h : mi M) (e : ∀ t o r i, t < 40 → ¬ (t = 30 ∧ (i = 0 ∨ i = 14 ∨ i = 17)) → M1 t o r i = M t o r i) : mi M1 := by
  refine ⟨by rw [e 30 0 0 1 (by omega) (by omega), e 30 0 0 2 (by omega) (by omega)]; exact h.1, fun s h0 h1 => ?_⟩
  obtain ⟨a, b, c, d⟩ := h.2 s h0 h1
  refine ⟨a.congr e, ?_, ?_, ?_⟩
  · rw [vw_congr e, e 30 0 0 2 (by omega) (by omega)]; exact b
  · rw [vw_congr e, e 38 0 0 s (by omega) (by omega)]; exact c
  · rw [e 37 0 0 s (by omega) (by omega)]; exact d
/-- the same but for the fault and the rows that are reckoned anew -/
def mo_fr (M : rk_M) (f : Int) (M' : rk_M) : Prop := (∀ t o r i, t ≠ 40 → t ≠ 41 → ¬ (t = 30 ∧ i = 0) → M' t o r i = M t o r i) ∧ M' 30 0 0 0 = f
theorem mo_fr_0 (M : rk_M) (f : Int) : mo_fr M f (rk_up M 30 0 0 0 f) := ⟨fun t o r i _ _ h => rk_up_ne (by omega), rk_up_self⟩
theorem rk_ex {M M1 : rk_M} (h : ∀ t o r i, t ≠ 40 → t ≠ 41 → ¬ (t = 30 ∧ i = 0) → M1 t o r i = M t o r i) : ∀ t o r i, t < 40 → ¬ (t = 30 ∧ (i = 0 ∨ i = 14 ∨ i = 17)) → M1 t o r i = M t o r i := fun t o r i a b => h t o r i (by omega) (by omega) (by omega)
def pr_mo_ordinal (M : rk_M) (s j k : Int) : Prop := mi M
def po_mo_ordinal (M : rk_M) (s j k : Int) (z : rk_Z) (M' : rk_M) : Prop := (¬ ((0 ≤ s ∧ s < 3) ∧ (0 ≤ j ∧ j < M 30 0 0 2) ∧ 0 ≤ k ∧ k < M 30 0 0 1) ∧ z = rk_one 0 ∧ mo_fr M 1 M') ∨ (((0 ≤ s ∧ s < 3) ∧ (0 ≤ j ∧ j < M 30 0 0 2) ∧ 0 ≤ k ∧ k < M 30 0 0 1) ∧ z = rk_one (if rs_bad (vw M) s j (M 30 0 0 1).toNat = 0 ∧ vw M 11 s 0 k ≠ 0 then rs_od (vw M) s j k else -1) ∧ mo_fr M 0 M')
def pp_mo_ordinal (as : List rk_V) (M : rk_M) : Prop := as = [rk_r 30 0 0, rk_i (rk_ai as 1), rk_i (rk_ai as 2), rk_i (rk_ai as 3)] ∧ pr_mo_ordinal M (rk_ai as 1) (rk_ai as 2) (rk_ai as 3)
def qq_mo_ordinal (as : List rk_V) (M : rk_M) (z : rk_Z) (M' : rk_M) : Prop := po_mo_ordinal M (rk_ai as 1) (rk_ai as 2) (rk_ai as 3) z M'
set_option maxHeartbeats 1000000 in
set_option maxRecDepth 20000 in
theorem c_mo_ordinal (l : Launch) : rk_Sp l rk_cs yn_mo_ordinal (.code yn_mo_ordinal prog_5_method_26_code 5 (some .int)) 3 pp_mo_ordinal qq_mo_ordinal 0 := by
  refine rk_mk (kc := kc_mo_ordinal) (ft := ft_mo) (ca := [(2 * 70 + 1, (1, pp_mo_isSegment, qq_mo_isSegment, 0)), (2 * 73, (2, pp_mo_isJudge, qq_mo_isJudge, 0)), (2 * 76, (2, pp_mo_isSkater, qq_mo_isSkater, 0)), (2 * 66, (2, pp_mo_refused, qq_mo_refused, 0)), (2 * 102, (3, pp_mo_reckonJudge, qq_mo_reckonJudge, 0))]) (th := []) (stops := [29]) (rt := 1) ck_mo_ordinal ftc_mo (List.forall_mem_cons.mpr ⟨rk_ckS (n := 1) (c_mo_isSegment l) ww_mo_isSegment lk_mo_70 (by decide) (by decide) (by decide) (by decide +kernel), List.forall_mem_cons.mpr ⟨rk_ckV (n := 1) (c_mo_isJudge l) ww_mo_isJudge lk_mo_73 (by decide) (by decide) (by decide) (by decide +kernel) (fun as M h => ⟨_, _, _, _, h.1, rk_rcv_mo⟩), List.forall_mem_cons.mpr ⟨rk_ckV (n := 1) (c_mo_isSkater l) ww_mo_isSkater lk_mo_76 (by decide) (by decide) (by decide) (by decide +kernel) (fun as M h => ⟨_, _, _, _, h.1, rk_rcv_mo⟩), List.forall_mem_cons.mpr ⟨rk_ckV (n := 1) (c_mo_refused l) ww_mo_refused lk_mo_66 (by decide) (by decide) (by decide) (by decide +kernel) (fun as M h => ⟨_, _, _, _, h.1, rk_rcv_mo⟩), List.forall_mem_cons.mpr ⟨rk_ckV (n := 2) (c_mo_reckonJudge l) ww_mo_reckonJudge lk_mo_102 (by decide) (by decide) (by decide) (by decide +kernel) (fun as M h => ⟨_, _, _, _, h.1, rk_rcv_mo⟩), fun _ h => absurd h List.not_mem_nil⟩⟩⟩⟩⟩) (fun _ h => absurd h List.not_mem_nil) (Or.inr (Or.inl ⟨rfl, rfl⟩)) (by decide +kernel) (fun as M h => by rw [h.1]; exact ⟨Nat.le_of_ble_eq_true rfl, rk_nlok rfl⟩) ?_
  intro L as M G hp hrg hG
  obtain ⟨has, hP⟩ := hp
  generalize rk_ai as 1 = s at has hP
  generalize rk_ai as 2 = j at has hP
  generalize rk_ai as 3 = k at has hP
  subst has
  have hmi : mi M := hP
  have hb := hmi.1
  have f29 : ∀ (w : Int) (x4 : rk_V), (w = 1 ∧ ¬ ((0 ≤ s ∧ s < 3) ∧ (0 ≤ j ∧ j < M 30 0 0 2) ∧ 0 ≤ k ∧ k < M 30 0 0 1)) ∨ (w = 0 ∧ ((0 ≤ s ∧ s < 3) ∧ (0 ≤ j ∧ j < M 30 0 0 2) ∧ 0 ≤ k ∧ k < M 30 0 0 1)) → G M 29 [rk_r 30 0 0, rk_i s, rk_i j, rk_i k, x4] [rk_i w, rk_r 30 0 0] 0 := by
    intro w x4 hw
    refine hG 60 _ _ _ _ _ rfl ?_
    refine And.intro (And.intro rfl (show pr_mo_refused M w from trivial)) (And.intro (Nat.le_refl _) ?_)
    intro z Mz hq
    have hz : z = rk_one (if 0 < w then 1 else 0) := hq.1
    have hM : Mz = rk_up M 30 0 0 0 w := hq.2
    subst z Mz
    clear hq
    refine And.intro ?_ ?_
    · intro h
      have c := rk_b0 h
      rcases hw with ⟨rfl, h1⟩ | ⟨rfl, h1⟩
      · omega
      have e0 : ∀ t o r i, t < 40 → ¬ (t = 30 ∧ (i = 0 ∨ i = 14 ∨ i = 17)) → rk_up M 30 0 0 0 0 t o r i = M t o r i := rk_ex (mo_fr_0 M 0).1
      have hv : vw (rk_up M 30 0 0 0 0) = vw M := vw_congr e0
      have e1 : rk_up M 30 0 0 0 0 30 0 0 1 = M 30 0 0 1 := rk_up_ne (by omega)
      have hm := (hmi.2 s h1.1.1 h1.1.2).1
      refine And.intro (And.intro rfl (show pr_mo_reckonJudge (rk_up M 30 0 0 0 0) s j from ⟨hm.congr e0, by omega, by omega⟩)) (And.intro (Nat.le_refl _) ?_)
      intro z M1 hq
      have hz : z = rk_one (mo_al (rk_up M 30 0 0 0 0) s j (rk_up M 30 0 0 0 0 30 0 0 1).toNat) := hq.1
      have hM := hq.2
      subst z
      clear hq
      have hM1 : mo_oj (rk_up M 30 0 0 0 0) s j M1 := hM
      obtain ⟨hF, hO⟩ := hM1
      have ho := hO k (by omega) (by omega)
      rw [hv, e1] at ho
      have eal : mo_al (rk_up M 30 0 0 0 0) s j (M 30 0 0 1).toNat ≠ 0 ↔ rs_bad (vw M) s j (M 30 0 0 1).toNat = 0 := by
        unfold mo_al
        rw [hv]
        split
        · rename_i q; exact ⟨fun _ => q, fun _ => by decide⟩
        · rename_i q; exact ⟨fun h => absurd rfl h, fun h => absurd h q⟩
      have hob := rs_od_b (vw M) s j k (by rw [vw_sk h1.1]; omega) (by rw [vw_sk h1.1]; omega)
      have hfr : mo_fr M 0 M1 := ⟨fun t o r i a b c => (hF t o r i (by omega)).trans ((mo_fr_0 M 0).1 t o r i a b c), (hF _ _ _ _ (by omega)).trans rk_up_self⟩
      refine And.intro (And.intro (by omega) (by omega)) ?_
      refine And.intro (And.intro (by omega) (by omega)) ?_
      refine And.intro (And.intro (by omega) (by show _ < (90 : Int); omega)) ?_
      refine And.intro ?_ ?_
      · intro h2
        refine And.intro (Or.inr ⟨h1, ?_, hfr⟩) (Nat.le_refl _)
        show rk_one _ = rk_one (if rs_bad (vw M) s j (M 30 0 0 1).toNat = 0 ∧ vw M 11 s 0 k ≠ 0 then rs_od (vw M) s j k else -1)
        rw [ho] at h2 ⊢
        by_cases c : mo_al (rk_up M 30 0 0 0 0) s j (M 30 0 0 1).toNat ≠ 0 ∧ vw M 11 s 0 k ≠ 0
        · rw [if_pos c, if_pos ⟨eal.mp c.1, c.2⟩]
        · rw [if_neg c] at h2; exact absurd rfl h2
      · intro h2
        refine And.intro (Or.inr ⟨h1, ?_, hfr⟩) (Nat.le_refl _)
        show rk_one _ = rk_one (if rs_bad (vw M) s j (M 30 0 0 1).toNat = 0 ∧ vw M 11 s 0 k ≠ 0 then rs_od (vw M) s j k else -1)
        rw [ho] at h2
        by_cases c : mo_al (rk_up M 30 0 0 0 0) s j (M 30 0 0 1).toNat ≠ 0 ∧ vw M 11 s 0 k ≠ 0
        · rw [if_pos c] at h2; omega
        · rw [if_neg (fun q => c ⟨eal.mpr q.1, q.2⟩)]
    · intro h
      have c := rk_b1 h
      rcases hw with ⟨rfl, h1⟩ | ⟨rfl, h1⟩
      · exact And.intro (Or.inl ⟨h1, rfl, mo_fr_0 M 1⟩) (Nat.le_refl _)
      · omega
  refine hG 40 _ _ _ _ _ rfl ?_
  refine And.intro (And.intro rfl (show pr_mo_isSegment M s from trivial)) (And.intro (Nat.le_refl _) ?_)
  intro z Mz hq
  have hz : z = rk_one (if 0 ≤ s ∧ s < 3 then 1 else 0) := hq.1
  have hM : Mz = M := hq.2
  subst z Mz
  clear hq
  refine And.intro ?_ ?_
  · intro h
    have c := rk_b0 h
    exact f29 _ _ (by omega)
  · intro h
    have c := rk_b1 h
    refine And.intro (And.intro rfl (show pr_mo_isJudge M j from trivial)) (And.intro (Nat.le_refl _) ?_)
    intro z Mz hq
    have hz : z = rk_one (if 0 ≤ j ∧ j < M 30 0 0 2 then 1 else 0) := hq.1
    have hM : Mz = M := hq.2
    subst z Mz
    clear hq
    refine And.intro ?_ ?_
    · intro h1
      have c1 := rk_b0 h1
      exact f29 _ _ (by omega)
    · intro h1
      have c1 := rk_b1 h1
      refine And.intro (And.intro rfl (show pr_mo_isSkater M k from trivial)) (And.intro (Nat.le_refl _) ?_)
      intro z Mz hq
      have hz : z = rk_one (if 0 ≤ k ∧ k < M 30 0 0 1 then 1 else 0) := hq.1
      have hM : Mz = M := hq.2
      subst z Mz
      clear hq
      refine And.intro ?_ ?_
      · intro h2
        have c2 := rk_b0 h2
        exact f29 _ _ (by omega)
      · intro h2
        have c2 := rk_b1 h2
        exact f29 _ _ (by omega)
theorem mo_rk.fr {M M1 M2 : rk_M} {s f : Int} (h1 : mo_fr M f M1) (h : mo_rk M1 s M2) : mo_fr M f M2 := ⟨fun t o r i a b c => (h.1 t o r i a b).trans (h1.1 t o r i a b c), (h.1 _ _ _ _ (by omega) (by omega)).trans h1.2⟩
theorem mo_fr.vw {M M1 : rk_M} {f : Int} (h : mo_fr M f M1) : vw M1 = vw M := vw_congr (rk_ex h.1)
theorem mo_fr.mi {M M1 : rk_M} {f : Int} (h : mo_fr M f M1) (hm : mi M) : mi M1 := hm.congr (rk_ex h.1)
theorem mo_fr.sk {M M1 : rk_M} {f : Int} (h : mo_fr M f M1) : M1 30 0 0 1 = M 30 0 0 1 := h.1 _ _ _ _ (by omega) (by omega) (by omega)
theorem mo_fr.ju {M M1 : rk_M} {f : Int} (h : mo_fr M f M1) : M1 30 0 0 2 = M 30 0 0 2 := h.1 _ _ _ _ (by omega) (by omega) (by omega)
/-- behind a reckoning a place can be asked for -/
theorem mo_rk.po {M M1 : rk_M} {s k : Int} (h : mo_rk M s M1) (hm : mv M s) (hc : rs_com (vw M) s ≠ 0) (h0 : 0 ≤ k) (h1 : k < M 30 0 0 1) (hst : vw M 11 s 0 k ≠ 0) : mo_po M1 s k := by
  have e : ∀ t o r i, t < 40 → ¬ (t = 30 ∧ (i = 0 ∨ i = 14 ∨ i = 17)) → M1 t o r i = M t o r i := fun t o r i a b => h.1 t o r i (by omega) (by omega)
  have hv := vw_congr e
  have e1 : M1 30 0 0 1 = M 30 0 0 1 := e _ _ _ _ (by omega) (by omega)
  refine ⟨hm.congr e, h0, by rw [e1]; exact h1, by rw [hv]; exact hst, ?_⟩
  have hr := h.2 hc
  unfold mo_rs at hr ⊢
  rw [hv, e1]
  exact hr
end
section
/-! Contracts of the reference: placing, step, publish, totals -/
theorem rf_pl_b (M : rk_M) (o k : Int) (h0 : 0 ≤ M 10 o 0 3) (h1 : M 10 o 0 3 ≤ 10) : 2 ≤ rf_pl M o k ∧ rf_pl M o k ≤ 22 := by
  have h := rs_ps_b (rf_M M o) o k (M 10 o 0 3).toNat
  unfold rf_pl
  omega
def pr_mo_placing (M : rk_M) (s k w : Int) : Prop := mi M
def po_mo_placing (M : rk_M) (s k w : Int) (z : rk_Z) (M' : rk_M) : Prop := (¬ ((0 ≤ s ∧ s < 3) ∧ (0 ≤ k ∧ k < M 30 0 0 1) ∧ 0 ≤ w ∧ w ≤ 4) ∧ z = rk_one 0 ∧ mo_fr M 1 M') ∨ (((0 ≤ s ∧ s < 3) ∧ (0 ≤ k ∧ k < M 30 0 0 1) ∧ 0 ≤ w ∧ w ≤ 4) ∧ z = rk_one (if rs_com (vw M) s ≠ 0 ∧ vw M 11 s 0 k ≠ 0 then mo_re M s k w else -1) ∧ mo_fr M 0 M')
def pp_mo_placing (as : List rk_V) (M : rk_M) : Prop := as = [rk_r 30 0 0, rk_i (rk_ai as 1), rk_i (rk_ai as 2), rk_i (rk_ai as 3)] ∧ pr_mo_placing M (rk_ai as 1) (rk_ai as 2) (rk_ai as 3)
def qq_mo_placing (as : List rk_V) (M : rk_M) (z : rk_Z) (M' : rk_M) : Prop := po_mo_placing M (rk_ai as 1) (rk_ai as 2) (rk_ai as 3) z M'
set_option maxHeartbeats 1000000 in
set_option maxRecDepth 20000 in
theorem c_mo_placing (l : Launch) : rk_Sp l rk_cs yn_mo_placing (.code yn_mo_placing prog_5_method_28_code 4 (some .int)) 4 pp_mo_placing qq_mo_placing 0 := by
  refine rk_mk (kc := kc_mo_placing) (ft := ft_mo) (ca := [(2 * 70 + 1, (1, pp_mo_isSegment, qq_mo_isSegment, 0)), (2 * 76, (2, pp_mo_isSkater, qq_mo_isSkater, 0)), (2 * 66, (2, pp_mo_refused, qq_mo_refused, 0)), (2 * 118, (2, pp_mo_reckon, qq_mo_reckon, 0)), (2 * 94, (3, pp_mo_starts, qq_mo_starts, 0)), (2 * 121, (4, pp_mo_result, qq_mo_result, 0))]) (th := []) (stops := [30]) (rt := 1) ck_mo_placing ftc_mo (List.forall_mem_cons.mpr ⟨rk_ckS (n := 1) (c_mo_isSegment l) ww_mo_isSegment lk_mo_70 (by decide) (by decide) (by decide) (by decide +kernel), List.forall_mem_cons.mpr ⟨rk_ckV (n := 1) (c_mo_isSkater l) ww_mo_isSkater lk_mo_76 (by decide) (by decide) (by decide) (by decide +kernel) (fun as M h => ⟨_, _, _, _, h.1, rk_rcv_mo⟩), List.forall_mem_cons.mpr ⟨rk_ckV (n := 1) (c_mo_refused l) ww_mo_refused lk_mo_66 (by decide) (by decide) (by decide) (by decide +kernel) (fun as M h => ⟨_, _, _, _, h.1, rk_rcv_mo⟩), List.forall_mem_cons.mpr ⟨rk_ckV (n := 1) (c_mo_reckon l) ww_mo_reckon lk_mo_118 (by decide) (by decide) (by decide) (by decide +kernel) (fun as M h => ⟨_, _, _, _, h.1, rk_rcv_mo⟩), List.forall_mem_cons.mpr ⟨rk_ckV (n := 2) (c_mo_starts l) ww_mo_starts lk_mo_94 (by decide) (by decide) (by decide) (by decide +kernel) (fun as M h => ⟨_, _, _, _, h.1, rk_rcv_mo⟩), List.forall_mem_cons.mpr ⟨rk_ckV (n := 3) (c_mo_result l) ww_mo_result lk_mo_121 (by decide) (by decide) (by decide) (by decide +kernel) (fun as M h => ⟨_, _, _, _, h.1, rk_rcv_mo⟩), fun _ h => absurd h List.not_mem_nil⟩⟩⟩⟩⟩⟩) (fun _ h => absurd h List.not_mem_nil) (Or.inr (Or.inl ⟨rfl, rfl⟩)) (by decide +kernel) (fun as M h => by rw [h.1]; exact ⟨Nat.le_of_ble_eq_true rfl, rk_nlok rfl⟩) ?_
  intro L as M G hp hrg hG
  obtain ⟨has, hP⟩ := hp
  generalize rk_ai as 1 = s at has hP
  generalize rk_ai as 2 = k at has hP
  generalize rk_ai as 3 = w at has hP
  subst has
  have hmi : mi M := hP
  have hb := hmi.1
  have f30 : ∀ (v : Int), (v = 1 ∧ ¬ ((0 ≤ s ∧ s < 3) ∧ (0 ≤ k ∧ k < M 30 0 0 1) ∧ 0 ≤ w ∧ w ≤ 4)) ∨ (v = 0 ∧ ((0 ≤ s ∧ s < 3) ∧ (0 ≤ k ∧ k < M 30 0 0 1) ∧ 0 ≤ w ∧ w ≤ 4)) → G M 30 [rk_r 30 0 0, rk_i s, rk_i k, rk_i w] [rk_i v, rk_r 30 0 0] 0 := by
    intro v hw
    refine hG 60 _ _ _ _ _ rfl ?_
    refine And.intro (And.intro rfl (show pr_mo_refused M v from trivial)) (And.intro (Nat.le_refl _) ?_)
    intro z Mz hq
    have hz : z = rk_one (if 0 < v then 1 else 0) := hq.1
    have hM : Mz = rk_up M 30 0 0 0 v := hq.2
    subst z Mz
    clear hq
    refine And.intro ?_ ?_
    · intro h
      have c := rk_b0 h
      rcases hw with ⟨rfl, h1⟩ | ⟨rfl, h1⟩
      · omega
      have h0 := mo_fr_0 M 0
      have hs := h1.1
      have hm1 := (h0.mi hmi).2 s hs.1 hs.2
      refine And.intro (And.intro rfl (show pr_mo_reckon (rk_up M 30 0 0 0 0) s from ⟨hm1.1, hm1.2.1⟩)) (And.intro (Nat.le_refl _) ?_)
      intro z M1 hq
      have hz : z = rk_one (rs_com (vw M) s) := hq.1.trans (by rw [h0.vw]; rfl)
      have hM := hq.2
      subst z
      clear hq
      have hM1 : mo_rk (rk_up M 30 0 0 0 0) s M1 := hM
      have hfr : mo_fr M 0 M1 := hM1.fr h0
      refine And.intro ?_ ?_
      · intro h2
        refine And.intro (Or.inr ⟨h1, ?_, hfr⟩) (Nat.le_refl _)
        show rk_one _ = rk_one (if rs_com (vw M) s ≠ 0 ∧ vw M 11 s 0 k ≠ 0 then mo_re M s k w else -1)
        rw [if_neg (fun q => q.1 h2)]
      · intro h2
        have e1 := hfr.sk
        refine And.intro (And.intro rfl (show pr_mo_starts M1 s k from ⟨by omega, by omega⟩)) (And.intro (Nat.le_refl _) ?_)
        intro z Mz hq
        have hz : z = rk_one (vw M 11 s 0 k) := hq.1.trans (congrArg rk_one ((mo_st (i := k) hs (by omega)).trans (by rw [hfr.vw])))
        have hM : Mz = M1 := hq.2
        subst z Mz
        clear hq
        refine And.intro ?_ ?_
        · intro h3
          have hpo : mo_po M1 s k := hM1.po hm1.1 (by rw [h0.vw]; exact h2) (by omega) (by rw [h0.sk]; omega) (by rw [h0.vw]; exact h3)
          refine And.intro (And.intro rfl (show pr_mo_result M1 s k w from ⟨hpo, by omega, by omega⟩)) (And.intro (Nat.le_refl _) ?_)
          intro z Mz hq
          have hz : z = rk_one (mo_re M s k w) := hq.1.trans (congrArg rk_one (show mo_re M1 s k w = _ by unfold mo_re; rw [hfr.vw]))
          have hM : Mz = M1 := hq.2
          subst z Mz
          clear hq
          refine And.intro (Or.inr ⟨h1, ?_, hfr⟩) (Nat.le_refl _)
          show rk_one _ = rk_one (if rs_com (vw M) s ≠ 0 ∧ vw M 11 s 0 k ≠ 0 then mo_re M s k w else -1)
          rw [if_pos ⟨h2, h3⟩]
        · intro h3
          refine And.intro (Or.inr ⟨h1, ?_, hfr⟩) (Nat.le_refl _)
          show rk_one _ = rk_one (if rs_com (vw M) s ≠ 0 ∧ vw M 11 s 0 k ≠ 0 then mo_re M s k w else -1)
          rw [if_neg (fun q => q.2 h3)]
    · intro h
      have c := rk_b1 h
      rcases hw with ⟨rfl, h1⟩ | ⟨rfl, h1⟩
      · exact And.intro (Or.inl ⟨h1, rfl, mo_fr_0 M 1⟩) (Nat.le_refl _)
      · omega
  refine hG 40 _ _ _ _ _ rfl ?_
  refine And.intro (And.intro rfl (show pr_mo_isSegment M s from trivial)) (And.intro (Nat.le_refl _) ?_)
  intro z Mz hq
  have hz : z = rk_one (if 0 ≤ s ∧ s < 3 then 1 else 0) := hq.1
  have hM : Mz = M := hq.2
  subst z Mz
  clear hq
  refine And.intro ?_ ?_
  · intro h
    have c := rk_b0 h
    exact f30 _ (by omega)
  · intro h
    have c := rk_b1 h
    refine And.intro (And.intro rfl (show pr_mo_isSkater M k from trivial)) (And.intro (Nat.le_refl _) ?_)
    intro z Mz hq
    have hz : z = rk_one (if 0 ≤ k ∧ k < M 30 0 0 1 then 1 else 0) := hq.1
    have hM : Mz = M := hq.2
    subst z Mz
    clear hq
    refine And.intro ?_ ?_
    · intro h1
      have c1 := rk_b0 h1
      exact f30 _ (by omega)
    · intro h1
      have c1 := rk_b1 h1
      repeat' (first | refine And.intro ?_ ?_ | intro _)
      all_goals exact f30 _ (by omega)
def pr_mo_step (M : rk_M) (s a b : Int) : Prop := mi M
def po_mo_step (M : rk_M) (s a b : Int) (z : rk_Z) (M' : rk_M) : Prop := (¬ ((0 ≤ s ∧ s < 3) ∧ (0 ≤ a ∧ a < M 30 0 0 1) ∧ 0 ≤ b ∧ b < M 30 0 0 1) ∧ z = rk_one 0 ∧ mo_fr M 1 M') ∨ (((0 ≤ s ∧ s < 3) ∧ (0 ≤ a ∧ a < M 30 0 0 1) ∧ 0 ≤ b ∧ b < M 30 0 0 1) ∧ z = rk_one (if rs_com (vw M) s ≠ 0 ∧ vw M 11 s 0 a ≠ 0 ∧ vw M 11 s 0 b ≠ 0 then rs_pt (rf_M (vw M) s) s a b else -1) ∧ mo_fr M 0 M')
def pp_mo_step (as : List rk_V) (M : rk_M) : Prop := as = [rk_r 30 0 0, rk_i (rk_ai as 1), rk_i (rk_ai as 2), rk_i (rk_ai as 3)] ∧ pr_mo_step M (rk_ai as 1) (rk_ai as 2) (rk_ai as 3)
def qq_mo_step (as : List rk_V) (M : rk_M) (z : rk_Z) (M' : rk_M) : Prop := po_mo_step M (rk_ai as 1) (rk_ai as 2) (rk_ai as 3) z M'
set_option maxHeartbeats 1000000 in
set_option maxRecDepth 20000 in
theorem c_mo_step (l : Launch) : rk_Sp l rk_cs yn_mo_step (.code yn_mo_step prog_5_method_29_code 4 (some .int)) 4 pp_mo_step qq_mo_step 0 := by
  refine rk_mk (kc := kc_mo_step) (ft := ft_mo) (ca := [(2 * 70 + 1, (1, pp_mo_isSegment, qq_mo_isSegment, 0)), (2 * 76, (2, pp_mo_isSkater, qq_mo_isSkater, 0)), (2 * 66, (2, pp_mo_refused, qq_mo_refused, 0)), (2 * 118, (2, pp_mo_reckon, qq_mo_reckon, 0)), (2 * 94, (3, pp_mo_starts, qq_mo_starts, 0)), (2 * 109, (3, pp_mo_parts, qq_mo_parts, 0))]) (th := []) (stops := [29]) (rt := 1) ck_mo_step ftc_mo (List.forall_mem_cons.mpr ⟨rk_ckS (n := 1) (c_mo_isSegment l) ww_mo_isSegment lk_mo_70 (by decide) (by decide) (by decide) (by decide +kernel), List.forall_mem_cons.mpr ⟨rk_ckV (n := 1) (c_mo_isSkater l) ww_mo_isSkater lk_mo_76 (by decide) (by decide) (by decide) (by decide +kernel) (fun as M h => ⟨_, _, _, _, h.1, rk_rcv_mo⟩), List.forall_mem_cons.mpr ⟨rk_ckV (n := 1) (c_mo_refused l) ww_mo_refused lk_mo_66 (by decide) (by decide) (by decide) (by decide +kernel) (fun as M h => ⟨_, _, _, _, h.1, rk_rcv_mo⟩), List.forall_mem_cons.mpr ⟨rk_ckV (n := 1) (c_mo_reckon l) ww_mo_reckon lk_mo_118 (by decide) (by decide) (by decide) (by decide +kernel) (fun as M h => ⟨_, _, _, _, h.1, rk_rcv_mo⟩), List.forall_mem_cons.mpr ⟨rk_ckV (n := 2) (c_mo_starts l) ww_mo_starts lk_mo_94 (by decide) (by decide) (by decide) (by decide +kernel) (fun as M h => ⟨_, _, _, _, h.1, rk_rcv_mo⟩), List.forall_mem_cons.mpr ⟨rk_ckV (n := 2) (c_mo_parts l) ww_mo_parts lk_mo_109 (by decide) (by decide) (by decide) (by decide +kernel) (fun as M h => ⟨_, _, _, _, h.1, rk_rcv_mo⟩), fun _ h => absurd h List.not_mem_nil⟩⟩⟩⟩⟩⟩) (fun _ h => absurd h List.not_mem_nil) (Or.inr (Or.inl ⟨rfl, rfl⟩)) (by decide +kernel) (fun as M h => by rw [h.1]; exact ⟨Nat.le_of_ble_eq_true rfl, rk_nlok rfl⟩) ?_
  intro L as M G hp hrg hG
  obtain ⟨has, hP⟩ := hp
  generalize rk_ai as 1 = s at has hP
  generalize rk_ai as 2 = a at has hP
  generalize rk_ai as 3 = b at has hP
  subst has
  have hmi : mi M := hP
  have hb := hmi.1
  have f29 : ∀ (v : Int), (v = 1 ∧ ¬ ((0 ≤ s ∧ s < 3) ∧ (0 ≤ a ∧ a < M 30 0 0 1) ∧ 0 ≤ b ∧ b < M 30 0 0 1)) ∨ (v = 0 ∧ ((0 ≤ s ∧ s < 3) ∧ (0 ≤ a ∧ a < M 30 0 0 1) ∧ 0 ≤ b ∧ b < M 30 0 0 1)) → G M 29 [rk_r 30 0 0, rk_i s, rk_i a, rk_i b] [rk_i v, rk_r 30 0 0] 0 := by
    intro v hw
    refine hG 60 _ _ _ _ _ rfl ?_
    refine And.intro (And.intro rfl (show pr_mo_refused M v from trivial)) (And.intro (Nat.le_refl _) ?_)
    intro z Mz hq
    have hz : z = rk_one (if 0 < v then 1 else 0) := hq.1
    have hM : Mz = rk_up M 30 0 0 0 v := hq.2
    subst z Mz
    clear hq
    refine And.intro ?_ ?_
    · intro h
      have c := rk_b0 h
      rcases hw with ⟨rfl, h1⟩ | ⟨rfl, h1⟩
      · omega
      have h0 := mo_fr_0 M 0
      have hs := h1.1
      have hm1 := (h0.mi hmi).2 s hs.1 hs.2
      refine And.intro (And.intro rfl (show pr_mo_reckon (rk_up M 30 0 0 0 0) s from ⟨hm1.1, hm1.2.1⟩)) (And.intro (Nat.le_refl _) ?_)
      intro z M1 hq
      have hz : z = rk_one (rs_com (vw M) s) := hq.1.trans (by rw [h0.vw]; rfl)
      have hM := hq.2
      subst z
      clear hq
      have hM1 : mo_rk (rk_up M 30 0 0 0 0) s M1 := hM
      have hfr : mo_fr M 0 M1 := hM1.fr h0
      refine And.intro ?_ ?_
      · intro h2
        refine And.intro (Or.inr ⟨h1, ?_, hfr⟩) (Nat.le_refl _)
        show rk_one _ = rk_one (if rs_com (vw M) s ≠ 0 ∧ vw M 11 s 0 a ≠ 0 ∧ vw M 11 s 0 b ≠ 0 then rs_pt (rf_M (vw M) s) s a b else -1)
        rw [if_neg (fun q => q.1 h2)]
      · intro h2
        have e1 := hfr.sk
        refine And.intro (And.intro rfl (show pr_mo_starts M1 s a from ⟨by omega, by omega⟩)) (And.intro (Nat.le_refl _) ?_)
        intro z Mz hq
        have hz : z = rk_one (vw M 11 s 0 a) := hq.1.trans (congrArg rk_one ((mo_st (i := a) hs (by omega)).trans (by rw [hfr.vw])))
        have hM : Mz = M1 := hq.2
        subst z Mz
        clear hq
        refine And.intro ?_ ?_
        · intro h3
          refine And.intro (Or.inr ⟨h1, ?_, hfr⟩) (Nat.le_refl _)
          show rk_one _ = rk_one (if rs_com (vw M) s ≠ 0 ∧ vw M 11 s 0 a ≠ 0 ∧ vw M 11 s 0 b ≠ 0 then rs_pt (rf_M (vw M) s) s a b else -1)
          rw [if_neg (fun q => q.2.1 h3)]
        · intro h3
          refine And.intro (And.intro rfl (show pr_mo_starts M1 s b from ⟨by omega, by omega⟩)) (And.intro (Nat.le_refl _) ?_)
          intro z Mz hq
          have hz : z = rk_one (vw M 11 s 0 b) := hq.1.trans (congrArg rk_one ((mo_st (i := b) hs (by omega)).trans (by rw [hfr.vw])))
          have hM : Mz = M1 := hq.2
          subst z Mz
          clear hq
          refine And.intro ?_ ?_
          · intro h4
            have hrs := hM1.2 (by rw [h0.vw]; exact h2)
            unfold mo_rs at hrs
            rw [h0.vw, h0.sk] at hrs
            refine And.intro (And.intro rfl (show pr_mo_parts M1 a b from ⟨by omega, by omega, by omega, by omega⟩)) (And.intro (Nat.le_refl _) ?_)
            intro z Mz hq
            have hz : z = rk_one (rk_pt M1 a b) := hq.1
            have hM : Mz = M1 := hq.2
            subst z Mz
            clear hq
            refine And.intro (Or.inr ⟨h1, ?_, hfr⟩) (Nat.le_refl _)
            show rk_one _ = rk_one (if rs_com (vw M) s ≠ 0 ∧ vw M 11 s 0 a ≠ 0 ∧ vw M 11 s 0 b ≠ 0 then rs_pt (rf_M (vw M) s) s a b else -1)
            rw [if_pos ⟨h2, h3, h4⟩]
            exact congrArg rk_one (mo_pt_r (N := rf_M (vw M) s) (fun w a1 a2 => by rw [rf_M_23]; exact hrs a (by omega) (by omega) h3 w a1 a2) (fun w a1 a2 => by rw [rf_M_23]; exact hrs b (by omega) (by omega) h4 w a1 a2))
          · intro h4
            refine And.intro (Or.inr ⟨h1, ?_, hfr⟩) (Nat.le_refl _)
            show rk_one _ = rk_one (if rs_com (vw M) s ≠ 0 ∧ vw M 11 s 0 a ≠ 0 ∧ vw M 11 s 0 b ≠ 0 then rs_pt (rf_M (vw M) s) s a b else -1)
            rw [if_neg (fun q => q.2.2 h4)]
    · intro h
      have c := rk_b1 h
      rcases hw with ⟨rfl, h1⟩ | ⟨rfl, h1⟩
      · exact And.intro (Or.inl ⟨h1, rfl, mo_fr_0 M 1⟩) (Nat.le_refl _)
      · omega
  refine hG 40 _ _ _ _ _ rfl ?_
  refine And.intro (And.intro rfl (show pr_mo_isSegment M s from trivial)) (And.intro (Nat.le_refl _) ?_)
  intro z Mz hq
  have hz : z = rk_one (if 0 ≤ s ∧ s < 3 then 1 else 0) := hq.1
  have hM : Mz = M := hq.2
  subst z Mz
  clear hq
  refine And.intro ?_ ?_
  · intro h
    have c := rk_b0 h
    exact f29 _ (by omega)
  · intro h
    have c := rk_b1 h
    refine And.intro (And.intro rfl (show pr_mo_isSkater M a from trivial)) (And.intro (Nat.le_refl _) ?_)
    intro z Mz hq
    have hz : z = rk_one (if 0 ≤ a ∧ a < M 30 0 0 1 then 1 else 0) := hq.1
    have hM : Mz = M := hq.2
    subst z Mz
    clear hq
    refine And.intro ?_ ?_
    · intro h1
      have c1 := rk_b0 h1
      exact f29 _ (by omega)
    · intro h1
      have c1 := rk_b1 h1
      refine And.intro (And.intro rfl (show pr_mo_isSkater M b from trivial)) (And.intro (Nat.le_refl _) ?_)
      intro z Mz hq
      have hz : z = rk_one (if 0 ≤ b ∧ b < M 30 0 0 1 then 1 else 0) := hq.1
      have hM : Mz = M := hq.2
      subst z Mz
      clear hq
      refine And.intro ?_ ?_
      · intro h2
        have c2 := rk_b0 h2
        exact f29 _ (by omega)
      · intro h2
        have c2 := rk_b1 h2
        exact f29 _ (by omega)
def pr_mo_publish (M : rk_M) (s : Int) : Prop := mi M
def po_mo_publish (M : rk_M) (s : Int) (z : rk_Z) (M' : rk_M) : Prop := (¬ (0 ≤ s ∧ s < 3) ∧ z = rk_one 0 ∧ mo_fr M 1 M') ∨ ((0 ≤ s ∧ s < 3) ∧ (M 38 0 0 s ≠ 0 ∨ rs_com (vw M) s = 0) ∧ z = rk_one 0 ∧ mo_fr M 2 M') ∨ ((0 ≤ s ∧ s < 3) ∧ ¬ (M 38 0 0 s ≠ 0 ∨ rs_com (vw M) s = 0) ∧ z = rk_one (rs_sta (vw M) s (M 30 0 0 1).toNat) ∧ mo_fr (rk_up M 38 0 0 s 1) 0 M')
def pp_mo_publish (as : List rk_V) (M : rk_M) : Prop := as = [rk_r 30 0 0, rk_i (rk_ai as 1)] ∧ pr_mo_publish M (rk_ai as 1)
def qq_mo_publish (as : List rk_V) (M : rk_M) (z : rk_Z) (M' : rk_M) : Prop := po_mo_publish M (rk_ai as 1) z M'
set_option maxHeartbeats 1000000 in
set_option maxRecDepth 20000 in
theorem c_mo_publish (l : Launch) : rk_Sp l rk_cs yn_mo_publish (.code yn_mo_publish prog_5_method_32_code 4 (some .int)) 4 pp_mo_publish qq_mo_publish 0 := by
  refine rk_mk (kc := kc_mo_publish) (ft := ft_mo) (ca := [(2 * 70 + 1, (1, pp_mo_isSegment, qq_mo_isSegment, 0)), (2 * 118, (2, pp_mo_reckon, qq_mo_reckon, 0)), (2 * 66, (2, pp_mo_refused, qq_mo_refused, 0)), (2 * 94, (3, pp_mo_starts, qq_mo_starts, 0))]) (th := []) (stops := [34, 53]) (rt := 1) ck_mo_publish ftc_mo (List.forall_mem_cons.mpr ⟨rk_ckS (n := 1) (c_mo_isSegment l) ww_mo_isSegment lk_mo_70 (by decide) (by decide) (by decide) (by decide +kernel), List.forall_mem_cons.mpr ⟨rk_ckV (n := 1) (c_mo_reckon l) ww_mo_reckon lk_mo_118 (by decide) (by decide) (by decide) (by decide +kernel) (fun as M h => ⟨_, _, _, _, h.1, rk_rcv_mo⟩), List.forall_mem_cons.mpr ⟨rk_ckV (n := 1) (c_mo_refused l) ww_mo_refused lk_mo_66 (by decide) (by decide) (by decide) (by decide +kernel) (fun as M h => ⟨_, _, _, _, h.1, rk_rcv_mo⟩), List.forall_mem_cons.mpr ⟨rk_ckV (n := 2) (c_mo_starts l) ww_mo_starts lk_mo_94 (by decide) (by decide) (by decide) (by decide +kernel) (fun as M h => ⟨_, _, _, _, h.1, rk_rcv_mo⟩), fun _ h => absurd h List.not_mem_nil⟩⟩⟩⟩) (fun _ h => absurd h List.not_mem_nil) (Or.inr (Or.inl ⟨rfl, rfl⟩)) (by decide +kernel) (fun as M h => by rw [h.1]; exact ⟨Nat.le_of_ble_eq_true rfl, rk_nlok rfl⟩) ?_
  intro L as M G hp hrg hG
  obtain ⟨has, hP⟩ := hp
  generalize rk_ai as 1 = s at has hP
  subst has
  have hmi : mi M := hP
  have hb := hmi.1
  have lp : ∀ M1 : rk_M, (0 ≤ s ∧ s < 3) → ¬ (M 38 0 0 s ≠ 0 ∨ rs_com (vw M) s = 0) → mo_fr (rk_up M 38 0 0 s 1) 0 M1 → ∀ i : Nat, i ≤ (M 30 0 0 1).toNat → G M1 53 [rk_r 30 0 0, rk_i s, rk_i (rs_sta (vw M) s i), rk_i i] [] 0 := by
    intro M1 hs hc hfr
    have e1 : M1 30 0 0 1 = M 30 0 0 1 := (hfr.1 _ _ _ _ (by omega) (by omega) (by omega)).trans (rk_up_off (by omega))
    refine rk_loop (M 30 0 0 1).toNat ?_
    intro i hi hnext
    have hsb := rk_ct_b (fun k => vw M 11 s 0 k ≠ 0) (fun _ => inferInstance) i
    change 0 ≤ rs_sta (vw M) s i ∧ rs_sta (vw M) s i ≤ (i : Int) at hsb
    have e39 : M1 39 0 0 i = M 39 0 0 i := (hfr.1 _ _ _ _ (by omega) (by omega) (by omega)).trans (rk_up_off (by omega))
    refine hG 60 _ _ _ _ _ rfl ?_
    refine And.intro ?_ ?_
    · intro h
      have hi' : i = (M 30 0 0 1).toNat := by omega
      subst hi'
      exact And.intro (Or.inr (Or.inr ⟨hs, hc, rfl, hfr⟩)) (Nat.le_refl _)
    · intro h
      refine And.intro (And.intro rfl (show pr_mo_starts M1 s i from ⟨by omega, by omega⟩)) (And.intro (Nat.le_refl _) ?_)
      intro z Mz hq
      have hz : z = rk_one (vw M 11 s 0 i) := hq.1.trans (congrArg rk_one (show (if (i : Int) < M1 30 0 0 1 ∧ s < M1 39 0 0 i then (1 : Int) else 0) = _ by rw [e1, e39]; exact mo_st (i := i) hs (by omega)))
      have hM : Mz = M1 := hq.2
      subst z Mz
      clear hq
      refine And.intro ?_ ?_
      · intro h1
        refine And.intro (And.intro (by omega) (by omega)) ?_
        refine rk_gto (hnext (by omega)) rfl ?_ rfl
        have e : rs_sta (vw M) s (i + 1) = rs_sta (vw M) s i := rk_ct_f (fun q => q h1)
        rw [e]; rfl
      · intro h1
        refine And.intro (And.intro (by omega) (by omega)) ?_
        refine And.intro (And.intro (by omega) (by omega)) ?_
        refine rk_gto (hnext (by omega)) rfl ?_ rfl
        have e : rs_sta (vw M) s (i + 1) = rs_sta (vw M) s i + 1 := rk_ct_t h1
        rw [e]; rfl
  have f34 : ∀ (M1 : rk_M) (v : Int) (x2 x3 : rk_V), (∀ t o r i, t ≠ 40 → t ≠ 41 → M1 t o r i = M t o r i) → (v = 1 ∧ ¬ (0 ≤ s ∧ s < 3)) ∨ (v = 2 ∧ (0 ≤ s ∧ s < 3) ∧ (M 38 0 0 s ≠ 0 ∨ rs_com (vw M) s = 0)) ∨ (v = 0 ∧ (0 ≤ s ∧ s < 3) ∧ ¬ (M 38 0 0 s ≠ 0 ∨ rs_com (vw M) s = 0)) → G M1 34 [rk_r 30 0 0, rk_i s, x2, x3] [rk_i v, rk_r 30 0 0] 0 := by
    intro M1 v x2 x3 hA hw
    have hfr : ∀ f, mo_fr M f (rk_up M1 30 0 0 0 f) := fun f => ⟨fun t o r i a b c => (rk_up_ne (by omega)).trans (hA t o r i a b), rk_up_self⟩
    refine hG 60 _ _ _ _ _ rfl ?_
    refine And.intro (And.intro rfl (show pr_mo_refused M1 v from trivial)) (And.intro (Nat.le_refl _) ?_)
    intro z Mz hq
    have hz : z = rk_one (if 0 < v then 1 else 0) := hq.1
    have hM : Mz = rk_up M1 30 0 0 0 v := hq.2
    subst z Mz
    clear hq
    refine And.intro ?_ ?_
    · intro h
      have c := rk_b0 h
      rcases hw with ⟨rfl, h1⟩ | ⟨rfl, h1, h2⟩ | ⟨rfl, h1, h2⟩
      · omega
      · omega
      refine And.intro (And.intro (by omega) (by show _ < (3 : Int); omega)) ?_
      refine And.intro (Or.inr rfl) ?_
      refine lp _ h1 h2 ?_ 0 (Nat.zero_le _)
      refine ⟨fun t o r i a b c => ?_, ?_⟩
      · show rk_up (rk_up M1 30 0 0 0 0) 38 0 0 s 1 t o r i = rk_up M 38 0 0 s 1 t o r i
        unfold rk_up
        split
        · rfl
        · rw [if_neg (by omega)]; exact hA t o r i a b
      · exact (rk_up_off (by omega)).trans rk_up_self
    · intro h
      have c := rk_b1 h
      rcases hw with ⟨rfl, h1⟩ | ⟨rfl, h1, h2⟩ | ⟨rfl, h1⟩
      · exact And.intro (Or.inl ⟨h1, rfl, hfr 1⟩) (Nat.le_refl _)
      · exact And.intro (Or.inr (Or.inl ⟨h1, h2, rfl, hfr 2⟩)) (Nat.le_refl _)
      · omega
  refine hG 40 _ _ _ _ _ rfl ?_
  refine And.intro (And.intro rfl (show pr_mo_isSegment M s from trivial)) (And.intro (Nat.le_refl _) ?_)
  intro z Mz hq
  have hz : z = rk_one (if 0 ≤ s ∧ s < 3 then 1 else 0) := hq.1
  have hM : Mz = M := hq.2
  subst z Mz
  clear hq
  refine And.intro ?_ ?_
  · intro h
    have c := rk_b1 h
    refine And.intro (And.intro (by omega) (by show _ < (3 : Int); omega)) ?_
    refine And.intro ?_ ?_
    · intro h1
      exact f34 M _ _ _ (fun _ _ _ _ _ _ => rfl) (by omega)
    · intro h1
      have hm := hmi.2 s c.1 c.2
      refine And.intro (And.intro rfl (show pr_mo_reckon M s from ⟨hm.1, hm.2.1⟩)) (And.intro (Nat.le_refl _) ?_)
      intro z M1 hq
      have hz : z = rk_one (rs_com (vw M) s) := hq.1
      have hM := hq.2
      subst z
      clear hq
      have hM1 : mo_rk M s M1 := hM
      refine And.intro ?_ ?_
      · intro h2
        exact f34 M1 _ _ _ hM1.1 (by omega)
      · intro h2
        exact f34 M1 _ _ _ hM1.1 (by omega)
  · intro h
    have c := rk_b0 h
    exact f34 M _ _ _ (fun _ _ _ _ _ _ => rfl) (by omega)
def mo_pp (M : rk_M) (s k : Int) : Int := if M 38 0 0 s ≠ 0 ∧ vw M 11 s 0 k ≠ 0 then rf_pl (vw M) s k else 0
def mo_f2 (M M' : rk_M) : Prop := ∀ t o r i, t ≠ 40 → t ≠ 41 → M' t o r i = M t o r i
theorem mo_f2.x {M M1 : rk_M} (h : mo_f2 M M1) : ∀ t o r i, t < 40 → ¬ (t = 30 ∧ (i = 0 ∨ i = 14 ∨ i = 17)) → M1 t o r i = M t o r i := fun t o r i a _ => h t o r i (by omega) (by omega)
theorem mo_pp_x {M M1 : rk_M} (h : ∀ t o r i, t < 40 → ¬ (t = 30 ∧ (i = 0 ∨ i = 14 ∨ i = 17)) → M1 t o r i = M t o r i) (s k : Int) : mo_pp M1 s k = mo_pp M s k := by
  unfold mo_pp
  rw [vw_congr h, h 38 0 0 s (by omega) (by omega)]
def pr_mo_publishedPlace (M : rk_M) (s k : Int) : Prop := mi M ∧ (0 ≤ s ∧ s < 3) ∧ 0 ≤ k ∧ k < M 30 0 0 1
def po_mo_publishedPlace (M : rk_M) (s k : Int) (z : rk_Z) (M' : rk_M) : Prop := z = rk_one (mo_pp M s k) ∧ mo_f2 M M'
def pp_mo_publishedPlace (as : List rk_V) (M : rk_M) : Prop := as = [rk_r 30 0 0, rk_i (rk_ai as 1), rk_i (rk_ai as 2)] ∧ pr_mo_publishedPlace M (rk_ai as 1) (rk_ai as 2)
def qq_mo_publishedPlace (as : List rk_V) (M : rk_M) (z : rk_Z) (M' : rk_M) : Prop := po_mo_publishedPlace M (rk_ai as 1) (rk_ai as 2) z M'
set_option maxHeartbeats 1000000 in
set_option maxRecDepth 20000 in
theorem c_mo_publishedPlace (l : Launch) : rk_Sp l rk_cs yn_mo_publishedPlace (.code yn_mo_publishedPlace prog_5_method_33_code 3 (some .int)) 4 pp_mo_publishedPlace qq_mo_publishedPlace 0 := by
  refine rk_mk (kc := kc_mo_publishedPlace) (ft := ft_mo) (ca := [(2 * 94, (3, pp_mo_starts, qq_mo_starts, 0)), (2 * 118, (2, pp_mo_reckon, qq_mo_reckon, 0)), (2 * 115, (3, pp_mo_placeOf, qq_mo_placeOf, 0))]) (th := []) (stops := []) (rt := 1) ck_mo_publishedPlace ftc_mo (List.forall_mem_cons.mpr ⟨rk_ckV (n := 2) (c_mo_starts l) ww_mo_starts lk_mo_94 (by decide) (by decide) (by decide) (by decide +kernel) (fun as M h => ⟨_, _, _, _, h.1, rk_rcv_mo⟩), List.forall_mem_cons.mpr ⟨rk_ckV (n := 1) (c_mo_reckon l) ww_mo_reckon lk_mo_118 (by decide) (by decide) (by decide) (by decide +kernel) (fun as M h => ⟨_, _, _, _, h.1, rk_rcv_mo⟩), List.forall_mem_cons.mpr ⟨rk_ckV (n := 2) (c_mo_placeOf l) ww_mo_placeOf lk_mo_115 (by decide) (by decide) (by decide) (by decide +kernel) (fun as M h => ⟨_, _, _, _, h.1, rk_rcv_mo⟩), fun _ h => absurd h List.not_mem_nil⟩⟩⟩) (fun _ h => absurd h List.not_mem_nil) (Or.inr (Or.inl ⟨rfl, rfl⟩)) (by decide +kernel) (fun as M h => by rw [h.1]; exact ⟨Nat.le_of_ble_eq_true rfl, rk_nlok rfl⟩) ?_
  intro L as M G hp hrg hG
  obtain ⟨has, hP⟩ := hp
  generalize rk_ai as 1 = s at has hP
  generalize rk_ai as 2 = k at has hP
  subst has
  obtain ⟨hmi, hs, hk0, hk1⟩ := hP
  have hb := hmi.1
  have hm := hmi.2 s hs.1 hs.2
  refine hG 40 _ _ _ _ _ rfl ?_
  refine And.intro (And.intro (by omega) (by show _ < (3 : Int); omega)) ?_
  refine And.intro ?_ ?_
  · intro h
    refine And.intro (And.intro ?_ (fun _ _ _ _ _ _ => rfl)) (Nat.le_refl _)
    show rk_one _ = rk_one (mo_pp M s k)
    unfold mo_pp
    rw [if_neg (fun q => q.1 h)]
  · intro h
    refine And.intro (And.intro rfl (show pr_mo_starts M s k from ⟨by omega, by omega⟩)) (And.intro (Nat.le_refl _) ?_)
    intro z Mz hq
    have hz : z = rk_one (vw M 11 s 0 k) := hq.1.trans (congrArg rk_one (mo_st (i := k) hs (by omega)))
    have hM : Mz = M := hq.2
    subst z Mz
    clear hq
    refine And.intro ?_ ?_
    · intro h1
      refine And.intro (And.intro rfl (show pr_mo_reckon M s from ⟨hm.1, hm.2.1⟩)) (And.intro (Nat.le_refl _) ?_)
      intro z M1 hq
      have hz : z = rk_one (rs_com (vw M) s) := hq.1
      have hM := hq.2
      subst z
      clear hq
      have hM1 : mo_rk M s M1 := hM
      have hpo : mo_po M1 s k := hM1.po hm.1 (hm.2.2.1 h) hk0 hk1 h1
      have hf : mo_f2 M M1 := hM1.1
      refine And.intro (And.intro rfl (show pr_mo_placeOf M1 s k from hpo)) (And.intro (Nat.le_refl _) ?_)
      intro z Mz hq
      have hz : z = rk_one (rf_pl (vw M) s k) := hq.1.trans (by rw [vw_congr hf.x]; rfl)
      have hM : Mz = M1 := hq.2
      subst z Mz
      clear hq
      refine And.intro (And.intro ?_ hf) (Nat.le_refl _)
      show rk_one _ = rk_one (mo_pp M s k)
      unfold mo_pp
      rw [if_pos ⟨h, h1⟩]
    · intro h1
      refine And.intro (And.intro ?_ (fun _ _ _ _ _ _ => rfl)) (Nat.le_refl _)
      show rk_one _ = rk_one (mo_pp M s k)
      unfold mo_pp
      rw [if_neg (fun q => q.2 h1)]
def mo_sd (M : rk_M) (k : Int) (n : Nat) : Int := rk_ct (fun s => M 38 0 0 s ≠ 0 ∧ vw M 11 s 0 k ≠ 0) (fun _ => inferInstance) n
def pr_mo_started (M : rk_M) (k : Int) : Prop := (0 ≤ k ∧ k < M 30 0 0 1) ∧ M 30 0 0 1 ≤ 10
def po_mo_started (M : rk_M) (k : Int) (z : rk_Z) (M' : rk_M) : Prop := z = rk_one (mo_sd M k 3) ∧ M' = M
def pp_mo_started (as : List rk_V) (M : rk_M) : Prop := as = [rk_r 30 0 0, rk_i (rk_ai as 1)] ∧ pr_mo_started M (rk_ai as 1)
def qq_mo_started (as : List rk_V) (M : rk_M) (z : rk_Z) (M' : rk_M) : Prop := po_mo_started M (rk_ai as 1) z M'
set_option maxHeartbeats 1000000 in
set_option maxRecDepth 20000 in
theorem c_mo_started (l : Launch) : rk_Sp l rk_cs yn_mo_started (.code yn_mo_started prog_5_method_34_code 4 (some .int)) 1 pp_mo_started qq_mo_started 0 := by
  refine rk_mk (kc := kc_mo_started) (ft := ft_mo) (ca := [(2 * 94, (3, pp_mo_starts, qq_mo_starts, 0))]) (th := []) (stops := [4]) (rt := 1) ck_mo_started ftc_mo (List.forall_mem_cons.mpr ⟨rk_ckV (n := 2) (c_mo_starts l) ww_mo_starts lk_mo_94 (by decide) (by decide) (by decide) (by decide +kernel) (fun as M h => ⟨_, _, _, _, h.1, rk_rcv_mo⟩), fun _ h => absurd h List.not_mem_nil⟩) (fun _ h => absurd h List.not_mem_nil) (Or.inr (Or.inl ⟨rfl, rfl⟩)) (by decide +kernel) (fun as M h => by rw [h.1]; exact ⟨Nat.le_of_ble_eq_true rfl, rk_nlok rfl⟩) ?_
  intro L as M G hp hrg hG
  obtain ⟨has, hP⟩ := hp
  generalize rk_ai as 1 = k at has hP
  subst has
  obtain ⟨hk, h10⟩ := hP
  have lp : ∀ i : Nat, i ≤ 3 → G M 4 [rk_r 30 0 0, rk_i k, rk_i (mo_sd M k i), rk_i i] [] 0 := by
    refine rk_loop 3 ?_
    intro i hi hnext
    have hsb := rk_ct_b (fun s => M 38 0 0 s ≠ 0 ∧ vw M 11 s 0 k ≠ 0) (fun _ => inferInstance) i
    change 0 ≤ mo_sd M k i ∧ mo_sd M k i ≤ (i : Int) at hsb
    refine hG 60 _ _ _ _ _ rfl ?_
    refine And.intro ?_ ?_
    · intro h
      have hi' : i = 3 := by omega
      subst hi'
      exact And.intro (And.intro rfl rfl) (Nat.le_refl _)
    · intro h
      refine And.intro (And.intro (by omega) (by show _ < (3 : Int); omega)) ?_
      refine And.intro ?_ ?_
      · intro h1
        refine And.intro (And.intro (by omega) (by omega)) ?_
        refine rk_gto (hnext (by omega)) rfl ?_ rfl
        have e : mo_sd M k (i + 1) = mo_sd M k i := rk_ct_f (fun q => q.1 h1)
        rw [e]; rfl
      · intro h1
        refine And.intro (And.intro rfl (show pr_mo_starts M i k from ⟨by omega, by omega⟩)) (And.intro (Nat.le_refl _) ?_)
        intro z Mz hq
        have hz : z = rk_one (vw M 11 i 0 k) := hq.1.trans (congrArg rk_one (mo_st (s := i) (i := k) (by omega) (by omega)))
        have hM : Mz = M := hq.2
        subst z Mz
        clear hq
        refine And.intro ?_ ?_
        · intro h2
          refine And.intro (And.intro (by omega) (by omega)) ?_
          refine rk_gto (hnext (by omega)) rfl ?_ rfl
          have e : mo_sd M k (i + 1) = mo_sd M k i := rk_ct_f (fun q => q.2 h2)
          rw [e]; rfl
        · intro h2
          refine And.intro (And.intro (by omega) (by omega)) ?_
          refine And.intro (And.intro (by omega) (by omega)) ?_
          refine rk_gto (hnext (by omega)) rfl ?_ rfl
          have e : mo_sd M k (i + 1) = mo_sd M k i + 1 := rk_ct_t ⟨h1, h2⟩
          rw [e]; rfl
  refine hG 10 _ _ _ _ _ rfl ?_
  exact lp 0 (Nat.zero_le _)
def mo_to (M : rk_M) (k : Int) (n : Nat) : Int := rk_sm (fun s => M 37 0 0 s * mo_pp M s k) n
theorem mo_to_x {M M1 : rk_M} (h : ∀ t o r i, t < 40 → ¬ (t = 30 ∧ (i = 0 ∨ i = 14 ∨ i = 17)) → M1 t o r i = M t o r i) (k : Int) (n : Nat) : mo_to M1 k n = mo_to M k n := rk_sm_congr _ (fun s _ => by rw [mo_pp_x h, h 37 0 0 s (by omega) (by omega)])
theorem mo_sd_x {M M1 : rk_M} (h : ∀ t o r i, t < 40 → ¬ (t = 30 ∧ (i = 0 ∨ i = 14 ∨ i = 17)) → M1 t o r i = M t o r i) (k : Int) (n : Nat) : mo_sd M1 k n = mo_sd M k n := rk_ct_congr _ (fun s _ => by rw [vw_congr h, h 38 0 0 s (by omega) (by omega)])
theorem mo_pp_b {M : rk_M} (h : mi M) {s : Int} (hs : 0 ≤ s ∧ s < 3) (k : Int) : 0 ≤ mo_pp M s k ∧ mo_pp M s k ≤ 22 := by
  have hm := (h.2 s hs.1 hs.2).1.2.1
  have hp := rf_pl_b (vw M) s k hm.1 hm.2.1
  unfold mo_pp
  split <;> omega
theorem mo_fb {M : rk_M} (h : mi M) {s : Int} (hs : 0 ≤ s ∧ s < 3) (k : Int) : 0 ≤ M 37 0 0 s * mo_pp M s k ∧ M 37 0 0 s * mo_pp M s k ≤ 440 := by
  have hp := mo_pp_b h hs k
  have hf := (h.2 s hs.1 hs.2).2.2.2
  refine ⟨Int.mul_nonneg (by omega) hp.1, ?_⟩
  have := Int.mul_le_mul hf.2 hp.2 hp.1 (by decide)
  omega
theorem mo_to_b {M : rk_M} (h : mi M) (k : Int) : ∀ n : Nat, n ≤ 3 → 0 ≤ mo_to M k n ∧ mo_to M k n ≤ 440 * n
  | 0, _ => ⟨Int.le_refl _, Int.le_refl _⟩
  | n + 1, hn => by
    have a := mo_to_b h k n (by omega)
    have b := mo_fb h (s := n) (by omega) k
    show 0 ≤ mo_to M k n + M 37 0 0 n * mo_pp M n k ∧ mo_to M k n + M 37 0 0 n * mo_pp M n k ≤ _
    omega
def pr_mo_totalOf (M : rk_M) (k : Int) : Prop := mi M ∧ 0 ≤ k ∧ k < M 30 0 0 1
def po_mo_totalOf (M : rk_M) (k : Int) (z : rk_Z) (M' : rk_M) : Prop := z = rk_one (mo_to M k 3) ∧ mo_f2 M M'
def pp_mo_totalOf (as : List rk_V) (M : rk_M) : Prop := as = [rk_r 30 0 0, rk_i (rk_ai as 1)] ∧ pr_mo_totalOf M (rk_ai as 1)
def qq_mo_totalOf (as : List rk_V) (M : rk_M) (z : rk_Z) (M' : rk_M) : Prop := po_mo_totalOf M (rk_ai as 1) z M'
set_option maxHeartbeats 1000000 in
set_option maxRecDepth 20000 in
theorem c_mo_totalOf (l : Launch) : rk_Sp l rk_cs yn_mo_totalOf (.code yn_mo_totalOf prog_5_method_35_code 4 (some .int)) 5 pp_mo_totalOf qq_mo_totalOf 0 := by
  refine rk_mk (kc := kc_mo_totalOf) (ft := ft_mo) (ca := [(2 * 129, (3, pp_mo_publishedPlace, qq_mo_publishedPlace, 0))]) (th := []) (stops := [4]) (rt := 1) ck_mo_totalOf ftc_mo (List.forall_mem_cons.mpr ⟨rk_ckV (n := 2) (c_mo_publishedPlace l) ww_mo_publishedPlace lk_mo_129 (by decide) (by decide) (by decide) (by decide +kernel) (fun as M h => ⟨_, _, _, _, h.1, rk_rcv_mo⟩), fun _ h => absurd h List.not_mem_nil⟩) (fun _ h => absurd h List.not_mem_nil) (Or.inr (Or.inl ⟨rfl, rfl⟩)) (by decide +kernel) (fun as M h => by rw [h.1]; exact ⟨Nat.le_of_ble_eq_true rfl, rk_nlok rfl⟩) ?_
  intro L as M G hp hrg hG
  obtain ⟨has, hP⟩ := hp
  generalize rk_ai as 1 = k at has hP
  subst has
  obtain ⟨hmi, hk0, hk1⟩ := hP
  have hb := hmi.1
  have lp : ∀ i : Nat, i ≤ 3 → ∀ M1 : rk_M, mo_f2 M M1 → G M1 4 [rk_r 30 0 0, rk_i k, rk_i (mo_to M k i), rk_i i] [] 0 := by
    refine rk_loop 3 ?_
    intro i hi hnext M1 hf
    have htb := mo_to_b hmi k i hi
    have e1 : M1 30 0 0 1 = M 30 0 0 1 := hf _ _ _ _ (by omega) (by omega)
    refine hG 60 _ _ _ _ _ rfl ?_
    refine And.intro ?_ ?_
    · intro h
      have hi' : i = 3 := by omega
      subst hi'
      exact And.intro (And.intro rfl hf) (Nat.le_refl _)
    · intro h
      have hfb := mo_fb hmi (s := i) (by omega) k
      refine And.intro (And.intro (by omega) (by show _ < (3 : Int); omega)) ?_
      refine And.intro (And.intro rfl (show pr_mo_publishedPlace M1 i k from ⟨hmi.congr hf.x, by omega, by omega, by omega⟩)) (And.intro (Nat.le_refl _) ?_)
      intro z M2 hq
      have hz : z = rk_one (mo_pp M i k) := hq.1.trans (congrArg rk_one (mo_pp_x hf.x i k))
      have hM := hq.2
      subst z
      clear hq
      have hf2 : mo_f2 M1 M2 := hM
      have e37 : M1 37 0 0 i = M 37 0 0 i := hf _ _ _ _ (by omega) (by omega)
      rw [e37]
      refine And.intro (And.intro (by omega) (by omega)) ?_
      refine And.intro (And.intro (by omega) (by omega)) ?_
      refine And.intro (And.intro (by omega) (by omega)) ?_
      refine rk_gto (hnext (by omega) M2 (fun t o r q a b => (hf2 t o r q a b).trans (hf t o r q a b))) rfl rfl rfl
  refine hG 10 _ _ _ _ _ rfl ?_
  exact lp 0 (Nat.zero_le _) M (fun _ _ _ _ _ _ => rfl)
def pr_mo_total (M : rk_M) (k : Int) : Prop := mi M
def po_mo_total (M : rk_M) (k : Int) (z : rk_Z) (M' : rk_M) : Prop := (¬ (0 ≤ k ∧ k < M 30 0 0 1) ∧ z = rk_one 0 ∧ mo_fr M 1 M') ∨ ((0 ≤ k ∧ k < M 30 0 0 1) ∧ z = rk_one (mo_to M k 3) ∧ mo_fr M 0 M')
def pp_mo_total (as : List rk_V) (M : rk_M) : Prop := as = [rk_r 30 0 0, rk_i (rk_ai as 1)] ∧ pr_mo_total M (rk_ai as 1)
def qq_mo_total (as : List rk_V) (M : rk_M) (z : rk_Z) (M' : rk_M) : Prop := po_mo_total M (rk_ai as 1) z M'
set_option maxHeartbeats 1000000 in
set_option maxRecDepth 20000 in
theorem c_mo_total (l : Launch) : rk_Sp l rk_cs yn_mo_total (.code yn_mo_total prog_5_method_36_code 2 (some .int)) 6 pp_mo_total qq_mo_total 0 := by
  refine rk_mk (kc := kc_mo_total) (ft := ft_mo) (ca := [(2 * 76, (2, pp_mo_isSkater, qq_mo_isSkater, 0)), (2 * 66, (2, pp_mo_refused, qq_mo_refused, 0)), (2 * 132, (2, pp_mo_totalOf, qq_mo_totalOf, 0))]) (th := []) (stops := [14]) (rt := 1) ck_mo_total ftc_mo (List.forall_mem_cons.mpr ⟨rk_ckV (n := 1) (c_mo_isSkater l) ww_mo_isSkater lk_mo_76 (by decide) (by decide) (by decide) (by decide +kernel) (fun as M h => ⟨_, _, _, _, h.1, rk_rcv_mo⟩), List.forall_mem_cons.mpr ⟨rk_ckV (n := 1) (c_mo_refused l) ww_mo_refused lk_mo_66 (by decide) (by decide) (by decide) (by decide +kernel) (fun as M h => ⟨_, _, _, _, h.1, rk_rcv_mo⟩), List.forall_mem_cons.mpr ⟨rk_ckV (n := 1) (c_mo_totalOf l) ww_mo_totalOf lk_mo_132 (by decide) (by decide) (by decide) (by decide +kernel) (fun as M h => ⟨_, _, _, _, h.1, rk_rcv_mo⟩), fun _ h => absurd h List.not_mem_nil⟩⟩⟩) (fun _ h => absurd h List.not_mem_nil) (Or.inr (Or.inl ⟨rfl, rfl⟩)) (by decide +kernel) (fun as M h => by rw [h.1]; exact ⟨Nat.le_of_ble_eq_true rfl, rk_nlok rfl⟩) ?_
  intro L as M G hp hrg hG
  obtain ⟨has, hP⟩ := hp
  generalize rk_ai as 1 = k at has hP
  subst has
  have hmi : mi M := hP
  have f14 : ∀ (v : Int), (v = 1 ∧ ¬ (0 ≤ k ∧ k < M 30 0 0 1)) ∨ (v = 0 ∧ (0 ≤ k ∧ k < M 30 0 0 1)) → G M 14 [rk_r 30 0 0, rk_i k] [rk_i v, rk_r 30 0 0] 0 := by
    intro v hw
    refine hG 60 _ _ _ _ _ rfl ?_
    refine And.intro (And.intro rfl (show pr_mo_refused M v from trivial)) (And.intro (Nat.le_refl _) ?_)
    intro z Mz hq
    have hz : z = rk_one (if 0 < v then 1 else 0) := hq.1
    have hM : Mz = rk_up M 30 0 0 0 v := hq.2
    subst z Mz
    clear hq
    refine And.intro ?_ ?_
    · intro h
      have c := rk_b0 h
      rcases hw with ⟨rfl, h1⟩ | ⟨rfl, h1⟩
      · omega
      have h0 := mo_fr_0 M 0
      refine And.intro (And.intro rfl (show pr_mo_totalOf (rk_up M 30 0 0 0 0) k from ⟨h0.mi hmi, h1.1, by rw [h0.sk]; exact h1.2⟩)) (And.intro (Nat.le_refl _) ?_)
      intro z M1 hq
      have hz : z = rk_one (mo_to M k 3) := hq.1.trans (congrArg rk_one (mo_to_x (rk_ex h0.1) k 3))
      have hM := hq.2
      subst z
      clear hq
      have hf : mo_f2 (rk_up M 30 0 0 0 0) M1 := hM
      exact And.intro (Or.inr ⟨h1, rfl, fun t o r i a b c => (hf t o r i a b).trans (h0.1 t o r i a b c), (hf _ _ _ _ (by omega) (by omega)).trans h0.2⟩) (Nat.le_refl _)
    · intro h
      have c := rk_b1 h
      rcases hw with ⟨rfl, h1⟩ | ⟨rfl, h1⟩
      · exact And.intro (Or.inl ⟨h1, rfl, mo_fr_0 M 1⟩) (Nat.le_refl _)
      · omega
  refine hG 40 _ _ _ _ _ rfl ?_
  refine And.intro (And.intro rfl (show pr_mo_isSkater M k from trivial)) (And.intro (Nat.le_refl _) ?_)
  intro z Mz hq
  have hz : z = rk_one (if 0 ≤ k ∧ k < M 30 0 0 1 then 1 else 0) := hq.1
  have hM : Mz = M := hq.2
  subst z Mz
  clear hq
  refine And.intro ?_ ?_
  · intro h1
    have c1 := rk_b0 h1
    exact f14 _ (by omega)
  · intro h1
    have c1 := rk_b1 h1
    exact f14 _ (by omega)
end
section
/-! Contracts of the reference: ranks -/
/-- the last published free segment -/
def mo_lf (M : rk_M) : Nat → Int
  | 0 => -1
  | n + 1 => if M 38 0 0 n ≠ 0 ∧ M 36 0 0 n = 1 then n else mo_lf M n
theorem mo_lf_b (M : rk_M) : ∀ n : Nat, -1 ≤ mo_lf M n ∧ mo_lf M n < n
  | 0 => by unfold mo_lf; omega
  | n + 1 => by
    have h := mo_lf_b M n
    unfold mo_lf
    split <;> omega
theorem mo_lf_x {M M1 : rk_M} (h : ∀ t o r i, t < 40 → ¬ (t = 30 ∧ (i = 0 ∨ i = 14 ∨ i = 17)) → M1 t o r i = M t o r i) : ∀ n : Nat, mo_lf M1 n = mo_lf M n
  | 0 => rfl
  | n + 1 => by unfold mo_lf; rw [mo_lf_x h n, h 38 0 0 n (by omega) (by omega), h 36 0 0 n (by omega) (by omega)]
def mo_rb (M : rk_M) (a b : Int) : Int := if mo_sd M a 3 ≠ mo_sd M b 3 then (if mo_sd M b 3 < mo_sd M a 3 then 1 else 0) else if mo_to M a 3 ≠ mo_to M b 3 then (if mo_to M a 3 < mo_to M b 3 then 1 else 0) else if mo_lf M 3 < 0 then 0 else if 0 < mo_pp M (mo_lf M 3) a ∧ 0 < mo_pp M (mo_lf M 3) b ∧ mo_pp M (mo_lf M 3) a < mo_pp M (mo_lf M 3) b then 1 else 0
theorem mo_rb_x {M M1 : rk_M} (h : ∀ t o r i, t < 40 → ¬ (t = 30 ∧ (i = 0 ∨ i = 14 ∨ i = 17)) → M1 t o r i = M t o r i) (a b : Int) : mo_rb M1 a b = mo_rb M a b := by
  unfold mo_rb
  rw [mo_sd_x h, mo_sd_x h, mo_to_x h, mo_to_x h, mo_lf_x h, mo_pp_x h, mo_pp_x h]
theorem mo_f2.tr {M M1 M2 : rk_M} (h : mo_f2 M M1) (h2 : mo_f2 M1 M2) : mo_f2 M M2 := fun t o r i a b => (h2 t o r i a b).trans (h t o r i a b)
def pr_mo_ranksBefore (M : rk_M) (a b : Int) : Prop := mi M ∧ (0 ≤ a ∧ a < M 30 0 0 1) ∧ 0 ≤ b ∧ b < M 30 0 0 1
def po_mo_ranksBefore (M : rk_M) (a b : Int) (z : rk_Z) (M' : rk_M) : Prop := z = rk_one (mo_rb M a b) ∧ mo_f2 M M'
def pp_mo_ranksBefore (as : List rk_V) (M : rk_M) : Prop := as = [rk_r 30 0 0, rk_i (rk_ai as 1), rk_i (rk_ai as 2)] ∧ pr_mo_ranksBefore M (rk_ai as 1) (rk_ai as 2)
def qq_mo_ranksBefore (as : List rk_V) (M : rk_M) (z : rk_Z) (M' : rk_M) : Prop := po_mo_ranksBefore M (rk_ai as 1) (rk_ai as 2) z M'
set_option maxHeartbeats 1000000 in
set_option maxRecDepth 20000 in
theorem c_mo_ranksBefore (l : Launch) : rk_Sp l rk_cs yn_mo_ranksBefore (.code yn_mo_ranksBefore prog_5_method_37_code 8 (some .boolean)) 6 pp_mo_ranksBefore qq_mo_ranksBefore 0 := by
  refine rk_mk (kc := kc_mo_ranksBefore) (ft := ft_mo) (ca := [(2 * 135, (2, pp_mo_started, qq_mo_started, 0)), (2 * 132, (2, pp_mo_totalOf, qq_mo_totalOf, 0)), (2 * 129, (3, pp_mo_publishedPlace, qq_mo_publishedPlace, 0))]) (th := []) (stops := [69]) (rt := 2) ck_mo_ranksBefore ftc_mo (List.forall_mem_cons.mpr ⟨rk_ckV (n := 1) (c_mo_started l) ww_mo_started lk_mo_135 (by decide) (by decide) (by decide) (by decide +kernel) (fun as M h => ⟨_, _, _, _, h.1, rk_rcv_mo⟩), List.forall_mem_cons.mpr ⟨rk_ckV (n := 1) (c_mo_totalOf l) ww_mo_totalOf lk_mo_132 (by decide) (by decide) (by decide) (by decide +kernel) (fun as M h => ⟨_, _, _, _, h.1, rk_rcv_mo⟩), List.forall_mem_cons.mpr ⟨rk_ckV (n := 2) (c_mo_publishedPlace l) ww_mo_publishedPlace lk_mo_129 (by decide) (by decide) (by decide) (by decide +kernel) (fun as M h => ⟨_, _, _, _, h.1, rk_rcv_mo⟩), fun _ h => absurd h List.not_mem_nil⟩⟩⟩) (fun _ h => absurd h List.not_mem_nil) (Or.inr (Or.inr (Or.inl ⟨rfl, rfl⟩))) (by decide +kernel) (fun as M h => by rw [h.1]; exact ⟨Nat.le_of_ble_eq_true rfl, rk_nlok rfl⟩) ?_
  intro L as M G hp hrg hG
  obtain ⟨has, hP⟩ := hp
  generalize rk_ai as 1 = a at has hP
  generalize rk_ai as 2 = b at has hP
  subst has
  obtain ⟨hmi, ha, hb⟩ := hP
  have hbb := hmi.1
  have f0 : mo_f2 M M := fun _ _ _ _ _ _ => rfl
  have fin : ∀ (v : Int) (M1 : rk_M), mo_f2 M M1 → v = mo_rb M a b → rk_one v = rk_one (mo_rb M a b) ∧ mo_f2 M M1 := fun v M1 hf hv => ⟨by rw [hv], hf⟩
  have lp : mo_sd M a 3 = mo_sd M b 3 → mo_to M a 3 = mo_to M b 3 → ∀ i : Nat, i ≤ 3 → ∀ (M1 : rk_M) (x3 x4 x7 : rk_V), mo_f2 M M1 → G M1 69 [rk_r 30 0 0, rk_i a, rk_i b, x3, x4, rk_i (mo_lf M i), rk_i i, x7] [] 0 := by
    intro hsd hto
    refine rk_loop 3 ?_
    intro i hi hnext M1 x3 x4 x7 hf
    have hl := mo_lf_b M i
    have e1 : M1 30 0 0 1 = M 30 0 0 1 := hf _ _ _ _ (by omega) (by omega)
    refine hG 60 _ _ _ _ _ rfl ?_
    refine And.intro ?_ ?_
    · intro h
      have hi' : i = 3 := by omega
      subst hi'
      refine And.intro ?_ ?_
      · intro h1
        have erb : mo_rb M a b = if 0 < mo_pp M (mo_lf M 3) a ∧ 0 < mo_pp M (mo_lf M 3) b ∧ mo_pp M (mo_lf M 3) a < mo_pp M (mo_lf M 3) b then 1 else 0 := by
          unfold mo_rb
          rw [if_neg (fun q => q hsd), if_neg (fun q => q hto), if_neg (by omega)]
        refine And.intro (And.intro rfl (show pr_mo_publishedPlace M1 (mo_lf M 3) a from ⟨hmi.congr hf.x, by omega, by omega, by omega⟩)) (And.intro (Nat.le_refl _) ?_)
        intro z M2 hq
        have hz : z = rk_one (mo_pp M (mo_lf M 3) a) := hq.1.trans (congrArg rk_one (mo_pp_x hf.x (mo_lf M 3) a))
        have hM := hq.2
        subst z
        clear hq
        have hf2 : mo_f2 M1 M2 := hM
        have hg := hf.tr hf2
        have e2 : M2 30 0 0 1 = M 30 0 0 1 := hg _ _ _ _ (by omega) (by omega)
        refine And.intro (And.intro rfl (show pr_mo_publishedPlace M2 (mo_lf M 3) b from ⟨hmi.congr hg.x, by omega, by omega, by omega⟩)) (And.intro (Nat.le_refl _) ?_)
        intro z M3 hq
        have hz : z = rk_one (mo_pp M (mo_lf M 3) b) := hq.1.trans (congrArg rk_one (mo_pp_x hg.x (mo_lf M 3) b))
        have hM := hq.2
        subst z
        clear hq
        have hf3 : mo_f2 M2 M3 := hM
        have hg3 := hg.tr hf3
        refine And.intro ?_ ?_
        · intro h2
          exact And.intro (Or.inl rfl) (And.intro (fin 0 M3 hg3 (by rw [erb, if_neg (by omega)])) (Nat.le_refl _))
        · intro h2
          refine And.intro ?_ ?_
          · intro h3
            exact And.intro (Or.inl rfl) (And.intro (fin 0 M3 hg3 (by rw [erb, if_neg (by omega)])) (Nat.le_refl _))
          · intro h3
            refine And.intro ?_ ?_
            · intro h4
              exact And.intro (Or.inl rfl) (And.intro (fin 0 M3 hg3 (by rw [erb, if_neg (by omega)])) (Nat.le_refl _))
            · intro h4
              exact And.intro (Or.inr rfl) (And.intro (fin 1 M3 hg3 (by rw [erb, if_pos (by omega)])) (Nat.le_refl _))
      · intro h1
        refine And.intro (Or.inl rfl) (And.intro (fin 0 M1 hf ?_) (Nat.le_refl _))
        unfold mo_rb
        rw [if_neg (fun q => q hsd), if_neg (fun q => q hto), if_pos (by omega)]
    · intro h
      have e38 : M1 38 0 0 i = M 38 0 0 i := hf _ _ _ _ (by omega) (by omega)
      have e36 : M1 36 0 0 i = M 36 0 0 i := hf _ _ _ _ (by omega) (by omega)
      refine And.intro (And.intro (by omega) (by show _ < (3 : Int); omega)) ?_
      rw [e38]
      refine And.intro ?_ ?_
      · intro h1
        refine And.intro (And.intro (by omega) (by omega)) ?_
        refine rk_gto (hnext (by omega) M1 x3 x4 x7 hf) rfl ?_ rfl
        have e : mo_lf M (i + 1) = mo_lf M i := by conv => lhs; unfold mo_lf
                                                   rw [if_neg (fun q => q.1 h1)]
        rw [e]; rfl
      · intro h1
        refine And.intro (And.intro (by omega) (by show _ < (3 : Int); omega)) ?_
        rw [e36]
        refine And.intro ?_ ?_
        · intro h2
          refine And.intro (And.intro (by omega) (by omega)) ?_
          refine rk_gto (hnext (by omega) M1 x3 x4 x7 hf) rfl ?_ rfl
          have e : mo_lf M (i + 1) = mo_lf M i := by conv => lhs; unfold mo_lf
                                                     rw [if_neg (fun q => h2 q.2)]
          rw [e]; rfl
        · intro h2
          refine And.intro (And.intro (by omega) (by omega)) ?_
          refine rk_gto (hnext (by omega) M1 x3 x4 x7 hf) rfl ?_ rfl
          have e : mo_lf M (i + 1) = i := by conv => lhs; unfold mo_lf
                                             rw [if_pos ⟨h1, h2⟩]
          rw [e]; rfl
  refine hG 60 _ _ _ _ _ rfl ?_
  refine And.intro (And.intro rfl (show pr_mo_started M a from ⟨ha, by omega⟩)) (And.intro (Nat.le_refl _) ?_)
  intro z Mz hq
  have hz : z = rk_one (mo_sd M a 3) := hq.1
  have hM : Mz = M := hq.2
  subst z Mz
  clear hq
  refine And.intro (And.intro rfl (show pr_mo_started M b from ⟨hb, by omega⟩)) (And.intro (Nat.le_refl _) ?_)
  intro z Mz hq
  have hz : z = rk_one (mo_sd M b 3) := hq.1
  have hM : Mz = M := hq.2
  subst z Mz
  clear hq
  refine And.intro ?_ ?_
  · intro h
    refine And.intro (And.intro rfl (show pr_mo_totalOf M a from ⟨hmi, ha.1, ha.2⟩)) (And.intro (Nat.le_refl _) ?_)
    intro z M1 hq
    have hz : z = rk_one (mo_to M a 3) := hq.1
    have hM := hq.2
    subst z
    clear hq
    have hf : mo_f2 M M1 := hM
    have e1 : M1 30 0 0 1 = M 30 0 0 1 := hf _ _ _ _ (by omega) (by omega)
    refine And.intro (And.intro rfl (show pr_mo_totalOf M1 b from ⟨hmi.congr hf.x, hb.1, by omega⟩)) (And.intro (Nat.le_refl _) ?_)
    intro z M2 hq
    have hz : z = rk_one (mo_to M b 3) := hq.1.trans (congrArg rk_one (mo_to_x hf.x b 3))
    have hM := hq.2
    subst z
    clear hq
    have hf2 : mo_f2 M1 M2 := hM
    have hg := hf.tr hf2
    refine And.intro ?_ ?_
    · intro h1
      exact lp h h1 0 (Nat.zero_le _) M2 _ _ _ hg
    · intro h1
      refine And.intro ?_ ?_
      · intro h2
        refine And.intro (Or.inl rfl) (And.intro (fin 0 M2 hg ?_) (Nat.le_refl _))
        unfold mo_rb
        rw [if_neg (fun q => q h), if_pos h1, if_neg (by omega)]
      · intro h2
        refine And.intro (Or.inr rfl) (And.intro (fin 1 M2 hg ?_) (Nat.le_refl _))
        unfold mo_rb
        rw [if_neg (fun q => q h), if_pos h1, if_pos (by omega)]
  · intro h
    refine And.intro (And.intro rfl (show pr_mo_started M a from ⟨ha, by omega⟩)) (And.intro (Nat.le_refl _) ?_)
    intro z Mz hq
    have hz : z = rk_one (mo_sd M a 3) := hq.1
    have hM : Mz = M := hq.2
    subst z Mz
    clear hq
    refine And.intro (And.intro rfl (show pr_mo_started M b from ⟨hb, by omega⟩)) (And.intro (Nat.le_refl _) ?_)
    intro z Mz hq
    have hz : z = rk_one (mo_sd M b 3) := hq.1
    have hM : Mz = M := hq.2
    subst z Mz
    clear hq
    refine And.intro ?_ ?_
    · intro h2
      refine And.intro (Or.inl rfl) (And.intro (fin 0 M f0 ?_) (Nat.le_refl _))
      unfold mo_rb
      rw [if_pos h, if_neg (by omega)]
    · intro h2
      refine And.intro (Or.inr rfl) (And.intro (fin 1 M f0 ?_) (Nat.le_refl _))
      unfold mo_rb
      rw [if_pos h, if_pos (by omega)]
def mo_ra (M : rk_M) (k : Int) (n : Nat) : Int := rk_ct (fun o => mo_rb M o k ≠ 0) (fun _ => inferInstance) n
def pr_mo_rank (M : rk_M) (k : Int) : Prop := mi M
def po_mo_rank (M : rk_M) (k : Int) (z : rk_Z) (M' : rk_M) : Prop := (¬ (0 ≤ k ∧ k < M 30 0 0 1) ∧ z = rk_one 0 ∧ mo_fr M 1 M') ∨ ((0 ≤ k ∧ k < M 30 0 0 1) ∧ (M 38 0 0 0 = 0 ∧ M 38 0 0 1 = 0 ∧ M 38 0 0 2 = 0) ∧ z = rk_one (-1) ∧ mo_fr M 0 M') ∨ ((0 ≤ k ∧ k < M 30 0 0 1) ∧ ¬ (M 38 0 0 0 = 0 ∧ M 38 0 0 1 = 0 ∧ M 38 0 0 2 = 0) ∧ z = rk_one (1 + mo_ra M k (M 30 0 0 1).toNat) ∧ mo_fr M 0 M')
def pp_mo_rank (as : List rk_V) (M : rk_M) : Prop := as = [rk_r 30 0 0, rk_i (rk_ai as 1)] ∧ pr_mo_rank M (rk_ai as 1)
def qq_mo_rank (as : List rk_V) (M : rk_M) (z : rk_Z) (M' : rk_M) : Prop := po_mo_rank M (rk_ai as 1) z M'
set_option maxHeartbeats 1000000 in
set_option maxRecDepth 20000 in
theorem c_mo_rank (l : Launch) : rk_Sp l rk_cs yn_mo_rank (.code yn_mo_rank prog_5_method_38_code 4 (some .int)) 7 pp_mo_rank qq_mo_rank 0 := by
  refine rk_mk (kc := kc_mo_rank) (ft := ft_mo) (ca := [(2 * 76, (2, pp_mo_isSkater, qq_mo_isSkater, 0)), (2 * 66, (2, pp_mo_refused, qq_mo_refused, 0)), (2 * 138, (3, pp_mo_ranksBefore, qq_mo_ranksBefore, 0))]) (th := []) (stops := [14, 51, 55]) (rt := 1) ck_mo_rank ftc_mo (List.forall_mem_cons.mpr ⟨rk_ckV (n := 1) (c_mo_isSkater l) ww_mo_isSkater lk_mo_76 (by decide) (by decide) (by decide) (by decide +kernel) (fun as M h => ⟨_, _, _, _, h.1, rk_rcv_mo⟩), List.forall_mem_cons.mpr ⟨rk_ckV (n := 1) (c_mo_refused l) ww_mo_refused lk_mo_66 (by decide) (by decide) (by decide) (by decide +kernel) (fun as M h => ⟨_, _, _, _, h.1, rk_rcv_mo⟩), List.forall_mem_cons.mpr ⟨rk_ckV (n := 2) (c_mo_ranksBefore l) ww_mo_ranksBefore lk_mo_138 (by decide) (by decide) (by decide) (by decide +kernel) (fun as M h => ⟨_, _, _, _, h.1, rk_rcv_mo⟩), fun _ h => absurd h List.not_mem_nil⟩⟩⟩) (fun _ h => absurd h List.not_mem_nil) (Or.inr (Or.inl ⟨rfl, rfl⟩)) (by decide +kernel) (fun as M h => by rw [h.1]; exact ⟨Nat.le_of_ble_eq_true rfl, rk_nlok rfl⟩) ?_
  intro L as M G hp hrg hG
  obtain ⟨has, hP⟩ := hp
  generalize rk_ai as 1 = k at has hP
  subst has
  have hmi : mi M := hP
  have hbb := hmi.1
  have lp : (0 ≤ k ∧ k < M 30 0 0 1) → ¬ (M 38 0 0 0 = 0 ∧ M 38 0 0 1 = 0 ∧ M 38 0 0 2 = 0) → ∀ i : Nat, i ≤ (M 30 0 0 1).toNat → ∀ (M1 : rk_M), mo_fr M 0 M1 → G M1 55 [rk_r 30 0 0, rk_i k, rk_i (1 + mo_ra M k i), rk_i i] [] 0 := by
    intro hk hp
    refine rk_loop (M 30 0 0 1).toNat ?_
    intro i hi hnext M1 hf
    have hsb := rk_ct_b (fun o => mo_rb M o k ≠ 0) (fun _ => inferInstance) i
    change 0 ≤ mo_ra M k i ∧ mo_ra M k i ≤ (i : Int) at hsb
    have e1 := hf.sk
    refine hG 60 _ _ _ _ _ rfl ?_
    refine And.intro ?_ ?_
    · intro h
      have hi' : i = (M 30 0 0 1).toNat := by omega
      subst hi'
      exact And.intro (Or.inr (Or.inr ⟨hk, hp, rfl, hf⟩)) (Nat.le_refl _)
    · intro h
      refine And.intro (And.intro rfl (show pr_mo_ranksBefore M1 i k from ⟨hf.mi hmi, by omega, by omega, by omega⟩)) (And.intro (Nat.le_refl _) ?_)
      intro z M2 hq
      have hz : z = rk_one (mo_rb M i k) := hq.1.trans (congrArg rk_one (mo_rb_x (rk_ex hf.1) i k))
      have hM := hq.2
      subst z
      clear hq
      have hf2 : mo_f2 M1 M2 := hM
      have hg : mo_fr M 0 M2 := ⟨fun t o r i a b c => (hf2 t o r i a b).trans (hf.1 t o r i a b c), (hf2 _ _ _ _ (by omega) (by omega)).trans hf.2⟩
      refine And.intro ?_ ?_
      · intro h1
        refine And.intro (And.intro (by omega) (by omega)) ?_
        refine rk_gto (hnext (by omega) M2 hg) rfl ?_ rfl
        have e : mo_ra M k (i + 1) = mo_ra M k i := rk_ct_f (fun q => q h1)
        rw [e]; rfl
      · intro h1
        refine And.intro (And.intro (by omega) (by omega)) ?_
        refine And.intro (And.intro (by omega) (by omega)) ?_
        refine rk_gto (hnext (by omega) M2 hg) rfl ?_ rfl
        have e : mo_ra M k (i + 1) = mo_ra M k i + 1 := rk_ct_t h1
        rw [e, ← Int.add_assoc]; rfl
  have f51 : ∀ (x2 x3 : rk_V), (0 ≤ k ∧ k < M 30 0 0 1) → ¬ (M 38 0 0 0 = 0 ∧ M 38 0 0 1 = 0 ∧ M 38 0 0 2 = 0) → G (rk_up M 30 0 0 0 0) 51 [rk_r 30 0 0, rk_i k, x2, x3] [] 0 := by
    intro x2 x3 h1 h2
    refine hG 10 _ _ _ _ _ rfl ?_
    exact lp h1 h2 0 (Nat.zero_le _) _ (mo_fr_0 M 0)
  have f14 : ∀ (v : Int) (x2 x3 : rk_V), (v = 1 ∧ ¬ (0 ≤ k ∧ k < M 30 0 0 1)) ∨ (v = 0 ∧ (0 ≤ k ∧ k < M 30 0 0 1)) → G M 14 [rk_r 30 0 0, rk_i k, x2, x3] [rk_i v, rk_r 30 0 0] 0 := by
    intro v x2 x3 hw
    refine hG 60 _ _ _ _ _ rfl ?_
    refine And.intro (And.intro rfl (show pr_mo_refused M v from trivial)) (And.intro (Nat.le_refl _) ?_)
    intro z Mz hq
    have hz : z = rk_one (if 0 < v then 1 else 0) := hq.1
    have hM : Mz = rk_up M 30 0 0 0 v := hq.2
    subst z Mz
    clear hq
    refine And.intro ?_ ?_
    · intro h
      have c := rk_b0 h
      rcases hw with ⟨rfl, h1⟩ | ⟨rfl, h1⟩
      · omega
      have e38 : ∀ i, rk_up M 30 0 0 0 0 38 0 0 i = M 38 0 0 i := fun i => rk_up_off (by omega)
      refine And.intro (And.intro (by omega) (by show _ < (3 : Int); omega)) ?_
      refine And.intro ?_ ?_
      · intro h2
        exact f51 _ _ h1 (fun q => h2 ((e38 0).trans q.1))
      · intro h2
        refine And.intro (And.intro (by omega) (by show _ < (3 : Int); omega)) ?_
        refine And.intro ?_ ?_
        · intro h3
          exact f51 _ _ h1 (fun q => h3 ((e38 1).trans q.2.1))
        · intro h3
          refine And.intro (And.intro (by omega) (by show _ < (3 : Int); omega)) ?_
          refine And.intro ?_ ?_
          · intro h4
            exact f51 _ _ h1 (fun q => h4 ((e38 2).trans q.2.2))
          · intro h4
            exact And.intro (Or.inr (Or.inl ⟨h1, ⟨(e38 0).symm.trans h2, (e38 1).symm.trans h3, (e38 2).symm.trans h4⟩, rfl, mo_fr_0 M 0⟩)) (Nat.le_refl _)
    · intro h
      have c := rk_b1 h
      rcases hw with ⟨rfl, h1⟩ | ⟨rfl, h1⟩
      · exact And.intro (Or.inl ⟨h1, rfl, mo_fr_0 M 1⟩) (Nat.le_refl _)
      · omega
  refine hG 40 _ _ _ _ _ rfl ?_
  refine And.intro (And.intro rfl (show pr_mo_isSkater M k from trivial)) (And.intro (Nat.le_refl _) ?_)
  intro z Mz hq
  have hz : z = rk_one (if 0 ≤ k ∧ k < M 30 0 0 1 then 1 else 0) := hq.1
  have hM : Mz = M := hq.2
  subst z Mz
  clear hq
  refine And.intro ?_ ?_
  · intro h1
    have c1 := rk_b0 h1
    exact f14 _ _ _ (by omega)
  · intro h1
    have c1 := rk_b1 h1
    exact f14 _ _ _ (by omega)
end
section
/-! Contracts of the reference: the least sum -/
/-- one mark told instead of another -/
def mo_nk (N : rk_M) (s j k f g : Int) : rk_M := rk_up (rk_up N 14 s j k f) 16 s j k g
theorem mo_nk_o {N : rk_M} {s j k f g : Int} {t : Nat} {o r i : Int} (h : t ≠ 14 ∧ t ≠ 16) : mo_nk N s j k f g t o r i = N t o r i := by
  unfold mo_nk
  rw [rk_up_off (by omega), rk_up_off (by omega)]
theorem mo_mk_o {M : rk_M} {n f g : Int} {t : Nat} {o r i : Int} (h : ¬ ((t = 31 ∨ t = 32 ∨ t = 33) ∧ o = 0 ∧ r = 0 ∧ i = n)) : mo_mk M n f g t o r i = M t o r i := by
  unfold mo_mk
  rw [rk_up_ne (by omega), rk_up_ne (by omega), rk_up_ne (by omega)]
theorem mo_mk_31 {M : rk_M} {n f g : Int} : mo_mk M n f g 31 0 0 n = 1 := by unfold mo_mk; rw [rk_up_off (by omega), rk_up_off (by omega), rk_up_self]
theorem mo_mk_32 {M : rk_M} {n f g : Int} : mo_mk M n f g 32 0 0 n = f := by unfold mo_mk; rw [rk_up_off (by omega), rk_up_self]
theorem mo_mk_33 {M : rk_M} {n f g : Int} : mo_mk M n f g 33 0 0 n = g := by unfold mo_mk; rw [rk_up_self]
theorem vw_mk {M : rk_M} {s j k f g : Int} (hs : 0 ≤ s ∧ s < 3) (hj : 0 ≤ j ∧ j < 9) (hk : 0 ≤ k ∧ k < 10) : vw (mo_mk M (10 * (9 * s + j) + k) f g) = mo_nk (vw M) s j k f g := by
  funext t o r i
  by_cases h14 : t = 14
  · subst h14
    unfold mo_nk
    rw [rk_up_off (by omega)]
    by_cases hc : o = s ∧ r = j ∧ i = k
    · obtain ⟨rfl, rfl, rfl⟩ := hc
      rw [vw_f1 hs hj hk, mo_mk_31, mo_mk_32, rk_up_self]
      rfl
    · rw [rk_up_ne (by omega)]
      by_cases hr : 0 ≤ o ∧ o < 3 ∧ 0 ≤ r ∧ r < 9 ∧ 0 ≤ i ∧ i < 10
      · rw [vw_f1 (by omega) (by omega) (by omega), vw_f1 (by omega) (by omega) (by omega), mo_mk_o (by omega), mo_mk_o (by omega)]
      · simp [vw, hr]
        exact mo_mk_o (t := 14) (by omega)
  by_cases h16 : t = 16
  · subst h16
    unfold mo_nk
    by_cases hc : o = s ∧ r = j ∧ i = k
    · obtain ⟨rfl, rfl, rfl⟩ := hc
      rw [vw_f2 hs hj hk, mo_mk_31, mo_mk_33, rk_up_self]
      rfl
    · rw [rk_up_ne (by omega), rk_up_off (by omega)]
      by_cases hr : 0 ≤ o ∧ o < 3 ∧ 0 ≤ r ∧ r < 9 ∧ 0 ≤ i ∧ i < 10
      · rw [vw_f2 (by omega) (by omega) (by omega), vw_f2 (by omega) (by omega) (by omega), mo_mk_o (by omega), mo_mk_o (by omega)]
      · simp [vw, hr]
        exact mo_mk_o (t := 16) (by omega)
  · rw [mo_nk_o ⟨h14, h16⟩]
    have e : ∀ t' o' r' i', t' ≠ 31 → t' ≠ 32 → t' ≠ 33 → mo_mk M (10 * (9 * s + j) + k) f g t' o' r' i' = M t' o' r' i' := fun t' o' r' i' a b c => by
      unfold mo_mk
      rw [rk_up_off (by omega), rk_up_off (by omega), rk_up_off (by omega)]
    simp only [vw, if_neg h14, if_neg h16]
    rw [e 36 _ _ _ (by omega) (by omega) (by omega), e 37 _ _ _ (by omega) (by omega) (by omega), e 38 _ _ _ (by omega) (by omega) (by omega), e 30 _ _ _ (by omega) (by omega) (by omega), e 30 _ _ _ (by omega) (by omega) (by omega), e 39 _ _ _ (by omega) (by omega) (by omega), e 35 _ _ _ (by omega) (by omega) (by omega), e 34 _ _ _ (by omega) (by omega) (by omega)]
    by_cases h10 : t = 10
    · subst h10; rw [e 10 _ _ _ (by omega) (by omega) (by omega)]
    by_cases h11 : t = 11
    · subst h11; rw [e 11 _ _ _ (by omega) (by omega) (by omega)]
    by_cases h12 : t = 12
    · subst h12; rw [e 12 _ _ _ (by omega) (by omega) (by omega)]
    by_cases h18 : t = 18
    · subst h18; rw [e 18 _ _ _ (by omega) (by omega) (by omega)]
    simp only [if_neg h10, if_neg h11, if_neg h12, if_neg h18]
theorem rs_ok_nk {N : rk_M} {s j k f g : Int} (h : rs_ok N s) (hf : 0 ≤ f ∧ f ≤ 60) (hg : 0 ≤ g ∧ g ≤ 60) : rs_ok (mo_nk N s j k f g) s := by
  obtain ⟨a0, a1, a2, a3, a4, a5⟩ := h
  refine ⟨by rw [mo_nk_o (by omega)]; exact a0, by rw [mo_nk_o (by omega)]; exact a1, by rw [mo_nk_o (by omega)]; exact a2, by rw [mo_nk_o (by omega)]; exact a3, fun j' k' b0 b1 b2 b3 => ?_, fun k' b0 b1 => by rw [mo_nk_o (by omega), mo_nk_o (by omega)]; exact a5 k' b0 b1⟩
  have h := a4 j' k' b0 b1 b2 b3
  unfold mo_nk rk_up
  constructor
  · split <;> (try split) <;> omega
  constructor
  · split <;> (try split) <;> omega
  constructor
  · split <;> (try split) <;> omega
  · split <;> (try split) <;> omega
theorem mv_mk {M : rk_M} {s j k f g : Int} (h : mv M s) (hj : 0 ≤ j ∧ j < 9) (hk : 0 ≤ k ∧ k < 10) (hf : 0 ≤ f ∧ f ≤ 60) (hg : 0 ≤ g ∧ g ≤ 60) : mv (mo_mk M (10 * (9 * s + j) + k) f g) s := by
  refine ⟨h.1, by rw [vw_mk h.1 hj hk]; exact rs_ok_nk h.2.1 hf hg, fun n h0 h1 => ?_⟩
  have hn := h.2.2 n h0 h1
  by_cases e : n = 10 * (9 * s + j) + k
  · subst e
    rw [mo_mk_31, mo_mk_32, mo_mk_33]
    omega
  · rw [mo_mk_o (by omega), mo_mk_o (by omega), mo_mk_o (by omega)]
    exact hn
/-- whether a segment is complete asks only whether there are marks -/
theorem rs_com_nk {N : rk_M} {s j k f g f' g' : Int} (hf : 0 ≤ f) (hf' : 0 ≤ f') : rs_com (mo_nk N s j k f g) s = rs_com (mo_nk N s j k f' g') s := by
  have e : ∀ t r i, t ≠ 14 ∧ t ≠ 16 → mo_nk N s j k f g t s r i = mo_nk N s j k f' g' t s r i := fun t r i h => by rw [mo_nk_o h, mo_nk_o h]
  have e14 : ∀ r i, mo_nk N s j k f g 14 s r i = -1 ↔ mo_nk N s j k f' g' 14 s r i = -1 := fun r i => by
    have ee : ∀ a b, mo_nk N s j k a b 14 s r i = rk_up N 14 s j k a 14 s r i := fun a b => by unfold mo_nk; rw [rk_up_off (by omega)]
    rw [ee, ee]
    unfold rk_up
    split <;> omega
  have eb : ∀ (q : Int) (n : Nat), rs_bad (mo_nk N s j k f g) s q n = rs_bad (mo_nk N s j k f' g') s q n := fun q n => rk_ct_congr _ (fun p _ => by rw [e 11 _ _ (by omega), e14])
  apply rs_com_congr
  unfold rs_cpl
  have ei : ∀ n : Nat, rs_inc (mo_nk N s j k f g) s n = rs_inc (mo_nk N s j k f' g') s n := fun n => rk_ct_congr _ (fun p _ => by rw [e 12 _ _ (by omega), e 10 _ _ (by omega), eb])
  have es : ∀ n : Nat, rs_sta (mo_nk N s j k f g) s n = rs_sta (mo_nk N s j k f' g') s n := fun n => rk_ct_congr _ (fun p _ => by rw [e 11 _ _ (by omega)])
  rw [ei, es, e 10 _ _ (by omega), e 10 _ _ (by omega)]
def mo_a3 (M : rk_M) (n : Int) (M' : rk_M) : Prop := ∀ t o r i, t ≠ 40 → t ≠ 41 → ¬ ((t = 31 ∨ t = 32 ∨ t = 33) ∧ o = 0 ∧ r = 0 ∧ i = n) → M' t o r i = M t o r i
theorem mo_a3.mk {M M1 : rk_M} {n : Int} (h : mo_a3 M n M1) (f g : Int) : mo_f2 (mo_mk M n f g) (mo_mk M1 n f g) := by
  intro t o r i a b
  by_cases hc : (t = 31 ∨ t = 32 ∨ t = 33) ∧ o = 0 ∧ r = 0 ∧ i = n
  · obtain ⟨ht, rfl, rfl, rfl⟩ := hc
    unfold mo_mk rk_up
    rcases ht with rfl | rfl | rfl <;> simp
  · rw [mo_mk_o hc, mo_mk_o hc]
    exact h t o r i a b hc
/-- the answer: the least sum of which some mark reaches the place -/
def mo_ns (N : rk_M) (s j k pl v : Int) : Prop :=
  (rs_com (mo_nk N s j k 0 0) s = 0 ∧ v = -1) ∨ (rs_com (mo_nk N s j k 0 0) s ≠ 0 ∧ ((0 ≤ v ∧ v ≤ 120 ∧ (∃ f, 0 ≤ f ∧ v - 60 ≤ f ∧ f ≤ 60 ∧ f ≤ v ∧ rf_pl (mo_nk N s j k f (v - f)) s k ≤ 2 * pl) ∧ ∀ S f, 0 ≤ S → S < v → 0 ≤ f → S - 60 ≤ f → f ≤ 60 → f ≤ S → ¬ rf_pl (mo_nk N s j k f (S - f)) s k ≤ 2 * pl) ∨
    (v = -1 ∧ ∀ S f, 0 ≤ S → S ≤ 120 → 0 ≤ f → S - 60 ≤ f → f ≤ 60 → f ≤ S → ¬ rf_pl (mo_nk N s j k f (S - f)) s k ≤ 2 * pl)))
def pr_mo_leastSum (M : rk_M) (s k n pl : Int) : Prop := (mv M s ∧ 0 < rs_pan (vw M) s (M 30 0 0 2).toNat ∧ 0 ≤ k ∧ k < M 30 0 0 1 ∧ vw M 11 s 0 k ≠ 0) ∧ (1 ≤ pl ∧ pl ≤ 10) ∧ ∃ j, 0 ≤ j ∧ j < 9 ∧ n = 10 * (9 * s + j) + k
def po_mo_leastSum (M : rk_M) (s k n pl : Int) (z : rk_Z) (M' : rk_M) : Prop := (∀ j, 0 ≤ j → j < 9 → n = 10 * (9 * s + j) + k → ∃ v, z = rk_one v ∧ mo_ns (vw M) s j k pl v) ∧ mo_a3 M n M'
def pp_mo_leastSum (as : List rk_V) (M : rk_M) : Prop := as = [rk_r 30 0 0, rk_i (rk_ai as 1), rk_i (rk_ai as 2), rk_i (rk_ai as 3), rk_i (rk_ai as 4)] ∧ pr_mo_leastSum M (rk_ai as 1) (rk_ai as 2) (rk_ai as 3) (rk_ai as 4)
def qq_mo_leastSum (as : List rk_V) (M : rk_M) (z : rk_Z) (M' : rk_M) : Prop := po_mo_leastSum M (rk_ai as 1) (rk_ai as 2) (rk_ai as 3) (rk_ai as 4) z M'
set_option maxHeartbeats 1000000 in
set_option maxRecDepth 20000 in
theorem c_mo_leastSum (l : Launch) : rk_Sp l rk_cs yn_mo_leastSum (.code yn_mo_leastSum prog_5_method_30_code 7 (some .int)) 4 pp_mo_leastSum qq_mo_leastSum 0 := by
  refine rk_mk (kc := kc_mo_leastSum) (ft := ft_mo) (ca := [(2 * 82, (5, pp_mo_put, qq_mo_put, 0)), (2 * 118, (2, pp_mo_reckon, qq_mo_reckon, 0)), (2 * 115, (3, pp_mo_placeOf, qq_mo_placeOf, 0))]) (th := []) (stops := [3, 28]) (rt := 1) ck_mo_leastSum ftc_mo (List.forall_mem_cons.mpr ⟨rk_ckV (n := 4) (c_mo_put l) ww_mo_put lk_mo_82 (by decide) (by decide) (by decide) (by decide +kernel) (fun as M h => ⟨_, _, _, _, h.1, rk_rcv_mo⟩), List.forall_mem_cons.mpr ⟨rk_ckV (n := 1) (c_mo_reckon l) ww_mo_reckon lk_mo_118 (by decide) (by decide) (by decide) (by decide +kernel) (fun as M h => ⟨_, _, _, _, h.1, rk_rcv_mo⟩), List.forall_mem_cons.mpr ⟨rk_ckV (n := 2) (c_mo_placeOf l) ww_mo_placeOf lk_mo_115 (by decide) (by decide) (by decide) (by decide +kernel) (fun as M h => ⟨_, _, _, _, h.1, rk_rcv_mo⟩), fun _ h => absurd h List.not_mem_nil⟩⟩⟩) (fun _ h => absurd h List.not_mem_nil) (Or.inr (Or.inl ⟨rfl, rfl⟩)) (by decide +kernel) (fun as M h => by rw [h.1]; exact ⟨Nat.le_of_ble_eq_true rfl, rk_nlok rfl⟩) ?_
  intro L as M G hp hrg hG
  obtain ⟨has, hP⟩ := hp
  generalize rk_ai as 1 = s at has hP
  generalize rk_ai as 2 = k at has hP
  generalize rk_ai as 3 = n at has hP
  generalize rk_ai as 4 = pl at has hP
  subst has
  obtain ⟨⟨hm, hpan, hk0, hk1, hst⟩, hpl, j, hj0, hj1, hn⟩ := hP
  have hs := hm.1
  have hsk := hm.sk
  have hju := hm.ju
  have fin : ∀ (v : Int) (M1 : rk_M), mo_a3 M n M1 → mo_ns (vw M) s j k pl v → qq_mo_leastSum [rk_r 30 0 0, rk_i s, rk_i k, rk_i n, rk_i pl] M (rk_one v) M1 := by
    intro v M1 h1 h2
    refine And.intro ?_ h1
    show ∀ j, 0 ≤ j → j < 9 → n = 10 * (9 * s + j) + k → ∃ v', rk_one v = rk_one v' ∧ mo_ns (vw M) s j k pl v'
    intro j' a b c
    have e : j' = j := by omega
    subst e
    exact ⟨v, rfl, h2⟩
  have outer : ∀ i : Nat, i ≤ 121 → ∀ (M2 : rk_M) (x6 : rk_V), mo_a3 M n M2 → (∀ S f, 0 ≤ S → S < (i : Int) → 0 ≤ f → S - 60 ≤ f → f ≤ 60 → f ≤ S → ¬ rf_pl (mo_nk (vw M) s j k f (S - f)) s k ≤ 2 * pl) → G M2 3 [rk_r 30 0 0, rk_i s, rk_i k, rk_i n, rk_i pl, rk_i i, x6] [] 0 := by
    refine rk_loop 121 ?_
    intro i hi hnext M2 x6 hA hno
    have inner : ∀ p : Nat, p ≤ 61 → ∀ (M3 : rk_M) (lo : Int), lo = (if 60 < (i : Int) then (i : Int) - 60 else 0) → i ≤ 120 → lo + p ≤ 61 → lo + p ≤ i + 1 → mo_a3 M n M3 → (∀ f, 0 ≤ f → (i : Int) - 60 ≤ f → f ≤ 60 → f ≤ i → f < lo + p → ¬ rf_pl (mo_nk (vw M) s j k f (i - f)) s k ≤ 2 * pl) → G M3 28 [rk_r 30 0 0, rk_i s, rk_i k, rk_i n, rk_i pl, rk_i i, rk_i (lo + p)] [] 0 := by
      refine rk_loop 61 ?_
      intro p hp hpn M3 lo hlo hi1 hl1 hl2 hA3 hno3
      have hlo0 : 0 ≤ lo ∧ (i : Int) - 60 ≤ lo := by rw [hlo]; split <;> omega
      have ex : (∀ f, 0 ≤ f → (i : Int) - 60 ≤ f → f ≤ 60 → f ≤ i → ¬ rf_pl (mo_nk (vw M) s j k f (i - f)) s k ≤ 2 * pl) → G M3 3 [rk_r 30 0 0, rk_i s, rk_i k, rk_i n, rk_i pl, rk_i ((i : Int) + 1), rk_i (lo + p)] [] 0 := by
        intro h
        refine rk_gto (hnext (by omega) M3 (rk_i (lo + p)) hA3 ?_) rfl rfl rfl
        intro S f a b c d e f'
        by_cases hS : S = i
        · subst hS; exact h f c d e f'
        · exact hno S f a (by omega) c d e f'
      refine hG 80 _ _ _ _ _ rfl ?_
      refine And.intro ?_ ?_
      · intro h
        refine And.intro (And.intro (by omega) (by omega)) ?_
        exact ex (fun f a b c d => hno3 f a b c d (by omega))
      · intro h
        refine And.intro ?_ ?_
        · intro h2
          refine And.intro (And.intro (by omega) (by omega)) ?_
          exact ex (fun f a b c d => hno3 f a b c d (by omega))
        · intro h2
          refine And.intro (And.intro (by omega) (by omega)) ?_
          refine And.intro (And.intro rfl (show pr_mo_put M3 n 1 (lo + p) ((i : Int) - (lo + p)) from ⟨by omega, by omega, Or.inr rfl⟩)) (And.intro (Nat.le_refl _) ?_)
          intro z Mz hq
          have hz : z = .inl none := hq.1
          have hM : Mz = mo_mk M3 n (lo + p) ((i : Int) - (lo + p)) := hq.2
          subst z Mz
          clear hq
          have hf2 := hA3.mk (lo + p) ((i : Int) - (lo + p))
          have hm3 : mv (mo_mk M3 n (lo + p) ((i : Int) - (lo + p))) s := by
            refine mv.congr (M := mo_mk M n (lo + p) ((i : Int) - (lo + p))) ?_ hf2.x
            rw [hn]
            exact mv_mk hm ⟨hj0, hj1⟩ (by omega) (by omega) (by omega)
          have hv3 : vw (mo_mk M3 n (lo + p) ((i : Int) - (lo + p))) = mo_nk (vw M) s j k (lo + p) ((i : Int) - (lo + p)) := by
            rw [vw_congr hf2.x, hn]
            exact vw_mk hs ⟨hj0, hj1⟩ (by omega)
          have e2 : mo_mk M3 n (lo + p) ((i : Int) - (lo + p)) 30 0 0 2 = M 30 0 0 2 := (mo_mk_o (by omega)).trans (hA3 _ _ _ _ (by omega) (by omega) (by omega))
          have e1 : mo_mk M3 n (lo + p) ((i : Int) - (lo + p)) 30 0 0 1 = M 30 0 0 1 := (mo_mk_o (by omega)).trans (hA3 _ _ _ _ (by omega) (by omega) (by omega))
          have ecom : rs_com (vw (mo_mk M3 n (lo + p) ((i : Int) - (lo + p)))) s = rs_com (mo_nk (vw M) s j k 0 0) s := by
            rw [hv3]
            exact rs_com_nk (by omega) (by omega)
          have epan : rs_pan (mo_nk (vw M) s j k (lo + p) ((i : Int) - (lo + p))) s (M 30 0 0 2).toNat = rs_pan (vw M) s (M 30 0 0 2).toNat := rk_ct_congr _ (fun q _ => by rw [mo_nk_o (by omega)])
          refine And.intro (And.intro rfl (show pr_mo_reckon (mo_mk M3 n (lo + p) ((i : Int) - (lo + p))) s from ⟨hm3, by rw [hv3, e2, epan]; exact hpan⟩)) (And.intro (Nat.le_refl _) ?_)
          intro z M4 hq
          have hz : z = rk_one (rs_com (mo_nk (vw M) s j k 0 0) s) := hq.1.trans (congrArg rk_one ecom)
          have hM := hq.2
          subst z
          clear hq
          have hM4 : mo_rk (mo_mk M3 n (lo + p) ((i : Int) - (lo + p))) s M4 := hM
          have hA4 : mo_a3 M n M4 := fun t o r q a b c => (hM4.1 t o r q a b).trans ((mo_mk_o c).trans (hA3 t o r q a b c))
          have hv4 : vw M4 = mo_nk (vw M) s j k (lo + p) ((i : Int) - (lo + p)) := (vw_congr (mo_f2.x hM4.1)).trans hv3
          refine And.intro ?_ ?_
          · intro h3
            have hpo : mo_po M4 s k := hM4.po hm3 (by rw [ecom]; exact h3) hk0 (by rw [e1]; exact hk1) (by rw [hv3, mo_nk_o (by omega)]; exact hst)
            refine And.intro (And.intro rfl (show pr_mo_placeOf M4 s k from hpo)) (And.intro (Nat.le_refl _) ?_)
            intro z Mz hq
            have hz : z = rk_one (rf_pl (mo_nk (vw M) s j k (lo + p) ((i : Int) - (lo + p))) s k) := hq.1.trans (by rw [hv4]; rfl)
            have hM : Mz = M4 := hq.2
            subst z Mz
            clear hq
            refine And.intro (And.intro (by omega) (by omega)) ?_
            refine And.intro ?_ ?_
            · intro h4
              refine And.intro (And.intro (by omega) (by omega)) ?_
              refine rk_gto (hpn (by omega) M4 lo hlo hi1 (by omega) (by omega) hA4 ?_) rfl ?_ rfl
              · intro f a b c d e
                by_cases hf : f = lo + p
                · subst hf; omega
                · exact hno3 f a b c d (by omega)
              · rw [show lo + ((p + 1 : Nat) : Int) = lo + p + 1 by omega]; rfl
            · intro h4
              refine And.intro (fin i M4 hA4 (Or.inr ⟨h3, Or.inl ⟨by omega, by omega, ⟨lo + p, by omega, by omega, by omega, by omega, h4⟩, hno⟩⟩)) (Nat.le_refl _)
          · intro h3
            exact And.intro (fin (-1) M4 hA4 (Or.inl ⟨h3, rfl⟩)) (Nat.le_refl _)
    refine hG 60 _ _ _ _ _ rfl ?_
    refine And.intro ?_ ?_
    · intro h
      refine And.intro (fin (-1) M2 hA ?_) (Nat.le_refl _)
      by_cases hc : rs_com (mo_nk (vw M) s j k 0 0) s = 0
      · exact Or.inl ⟨hc, rfl⟩
      · exact Or.inr ⟨hc, Or.inr ⟨rfl, fun S f a b => hno S f a (by omega)⟩⟩
    · intro h
      refine And.intro ?_ ?_
      · intro h1
        refine rk_gto (inner 0 (Nat.zero_le _) M2 0 (by rw [if_neg (by omega)]) (by omega) (by omega) (by omega) hA (fun f a b c d e => by omega)) rfl rfl rfl
      · intro h1
        refine And.intro (And.intro (by omega) (by omega)) ?_
        refine rk_gto (inner 0 (Nat.zero_le _) M2 ((i : Int) - 60) (by rw [if_pos (by omega)]) (by omega) (by omega) (by omega) hA (fun f a b c d e => by omega)) rfl ?_ rfl
        rw [show (i : Int) - 60 + ((0 : Nat) : Int) = (i : Int) - 60 by omega]; rfl
  refine hG 10 _ _ _ _ _ rfl ?_
  exact outer 0 (Nat.zero_le _) M _ (fun _ _ _ _ _ _ _ => rfl) (fun S f a b => by omega)
def pr_mo_needed (M : rk_M) (s k pl : Int) : Prop := mi M
def po_mo_needed (M : rk_M) (s k pl : Int) (z : rk_Z) (M' : rk_M) : Prop := (¬ ((0 ≤ s ∧ s < 3) ∧ 0 ≤ k ∧ k < M 30 0 0 1) ∧ z = rk_one 0 ∧ mo_fr M 1 M') ∨ (((0 ≤ s ∧ s < 3) ∧ 0 ≤ k ∧ k < M 30 0 0 1) ∧ ¬ (1 ≤ pl ∧ pl ≤ 10) ∧ z = rk_one 0 ∧ mo_fr M 2 M') ∨ (((0 ≤ s ∧ s < 3) ∧ 0 ≤ k ∧ k < M 30 0 0 1) ∧ (1 ≤ pl ∧ pl ≤ 10) ∧ vw M 11 s 0 k = 0 ∧ z = rk_one (-1) ∧ mo_fr M 0 M') ∨ (((0 ≤ s ∧ s < 3) ∧ 0 ≤ k ∧ k < M 30 0 0 1) ∧ (1 ≤ pl ∧ pl ≤ 10) ∧ vw M 11 s 0 k ≠ 0 ∧ (∃ v, z = rk_one v ∧ mo_ns (vw M) s (rs_la (vw M) s (M 30 0 0 2).toNat) k pl v) ∧ mo_fr M 0 M')
def pp_mo_needed (as : List rk_V) (M : rk_M) : Prop := as = [rk_r 30 0 0, rk_i (rk_ai as 1), rk_i (rk_ai as 2), rk_i (rk_ai as 3)] ∧ pr_mo_needed M (rk_ai as 1) (rk_ai as 2) (rk_ai as 3)
def qq_mo_needed (as : List rk_V) (M : rk_M) (z : rk_Z) (M' : rk_M) : Prop := po_mo_needed M (rk_ai as 1) (rk_ai as 2) (rk_ai as 3) z M'
set_option maxHeartbeats 1000000 in
set_option maxRecDepth 20000 in
theorem c_mo_needed (l : Launch) : rk_Sp l rk_cs yn_mo_needed (.code yn_mo_needed prog_5_method_31_code 11 (some .int)) 5 pp_mo_needed qq_mo_needed 0 := by
  refine rk_mk (kc := kc_mo_needed) (ft := ft_mo) (ca := [(2 * 70 + 1, (1, pp_mo_isSegment, qq_mo_isSegment, 0)), (2 * 76, (2, pp_mo_isSkater, qq_mo_isSkater, 0)), (2 * 66, (2, pp_mo_refused, qq_mo_refused, 0)), (2 * 94, (3, pp_mo_starts, qq_mo_starts, 0)), (2 * 125, (5, pp_mo_leastSum, qq_mo_leastSum, 0)), (2 * 82, (5, pp_mo_put, qq_mo_put, 0))]) (th := []) (stops := [22, 48, 75, 96]) (rt := 1) ck_mo_needed ftc_mo (List.forall_mem_cons.mpr ⟨rk_ckS (n := 1) (c_mo_isSegment l) ww_mo_isSegment lk_mo_70 (by decide) (by decide) (by decide) (by decide +kernel), List.forall_mem_cons.mpr ⟨rk_ckV (n := 1) (c_mo_isSkater l) ww_mo_isSkater lk_mo_76 (by decide) (by decide) (by decide) (by decide +kernel) (fun as M h => ⟨_, _, _, _, h.1, rk_rcv_mo⟩), List.forall_mem_cons.mpr ⟨rk_ckV (n := 1) (c_mo_refused l) ww_mo_refused lk_mo_66 (by decide) (by decide) (by decide) (by decide +kernel) (fun as M h => ⟨_, _, _, _, h.1, rk_rcv_mo⟩), List.forall_mem_cons.mpr ⟨rk_ckV (n := 2) (c_mo_starts l) ww_mo_starts lk_mo_94 (by decide) (by decide) (by decide) (by decide +kernel) (fun as M h => ⟨_, _, _, _, h.1, rk_rcv_mo⟩), List.forall_mem_cons.mpr ⟨rk_ckV (n := 4) (c_mo_leastSum l) ww_mo_leastSum lk_mo_125 (by decide) (by decide) (by decide) (by decide +kernel) (fun as M h => ⟨_, _, _, _, h.1, rk_rcv_mo⟩), List.forall_mem_cons.mpr ⟨rk_ckV (n := 4) (c_mo_put l) ww_mo_put lk_mo_82 (by decide) (by decide) (by decide) (by decide +kernel) (fun as M h => ⟨_, _, _, _, h.1, rk_rcv_mo⟩), fun _ h => absurd h List.not_mem_nil⟩⟩⟩⟩⟩⟩) (fun _ h => absurd h List.not_mem_nil) (Or.inr (Or.inl ⟨rfl, rfl⟩)) (by decide +kernel) (fun as M h => by rw [h.1]; exact ⟨Nat.le_of_ble_eq_true rfl, rk_nlok rfl⟩) ?_
  intro L as M G hp hrg hG
  obtain ⟨has, hP⟩ := hp
  generalize rk_ai as 1 = s at has hP
  generalize rk_ai as 2 = k at has hP
  generalize rk_ai as 3 = pl at has hP
  subst has
  have hmi : mi M := hP
  have hbb := hmi.1
  have h0 := mo_fr_0 M 0
  have f96 : ∀ (x4 x6 x7 x8 x9 x10 : rk_V), ((0 ≤ s ∧ s < 3) ∧ 0 ≤ k ∧ k < M 30 0 0 1) → (1 ≤ pl ∧ pl ≤ 10) → vw M 11 s 0 k ≠ 0 → G (rk_up M 30 0 0 0 0) 96 [rk_r 30 0 0, rk_i s, rk_i k, rk_i pl, x4, rk_i (rs_la (vw M) s (M 30 0 0 2).toNat), x6, x7, x8, x9, x10] [] 0 := by
    intro x4 x6 x7 x8 x9 x10 hth hpl hst
    have hs := hth.1
    have hm := hmi.2 s hs.1 hs.2
    have hm1 := (h0.mi hmi).2 s hs.1 hs.2
    have hla := rs_la_b (vw M) s (M 30 0 0 2).toNat
    have hj : 0 ≤ rs_la (vw M) s (M 30 0 0 2).toNat ∧ rs_la (vw M) s (M 30 0 0 2).toNat < 9 := by omega
    generalize fj : rs_la (vw M) s (M 30 0 0 2).toNat = j at hj ⊢
    have hn := hm.1.2.2 (10 * (9 * s + j) + k) (by omega) (by omega)
    have e31 : ∀ t i, t ≠ 30 → rk_up M 30 0 0 0 0 t 0 0 i = M t 0 0 i := fun t i h => rk_up_off (by omega)
    refine hG 60 _ _ _ _ _ rfl ?_
    refine And.intro (And.intro (by omega) (by omega)) ?_
    refine And.intro (And.intro (by omega) (by omega)) ?_
    refine And.intro (And.intro (by omega) (by omega)) ?_
    refine And.intro (And.intro (by omega) (by omega)) ?_
    refine And.intro (And.intro (by omega) (by show _ < (270 : Int); omega)) ?_
    refine And.intro (And.intro (by omega) (by show _ < (270 : Int); omega)) ?_
    refine And.intro (And.intro (by omega) (by show _ < (270 : Int); omega)) ?_
    rw [e31 31 _ (by decide), e31 32 _ (by decide), e31 33 _ (by decide)]
    refine And.intro (And.intro rfl (show pr_mo_leastSum (rk_up M 30 0 0 0 0) s k (10 * (9 * s + j) + k) pl from ⟨⟨hm1.1, hm1.2.1, by omega, by rw [h0.sk]; omega, by rw [h0.vw]; exact hst⟩, hpl, j, hj.1, hj.2, rfl⟩)) (And.intro (Nat.le_refl _) ?_)
    intro z M1 hq
    obtain ⟨v, hz, hns⟩ := hq.1 j hj.1 hj.2 rfl
    have hA : mo_a3 (rk_up M 30 0 0 0 0) (10 * (9 * s + j) + k) M1 := hq.2
    clear hq
    subst z
    refine And.intro (And.intro rfl (show pr_mo_put M1 (10 * (9 * s + j) + k) (M 31 0 0 (10 * (9 * s + j) + k)) (M 32 0 0 (10 * (9 * s + j) + k)) (M 33 0 0 (10 * (9 * s + j) + k)) from ⟨by omega, by omega, by omega⟩)) (And.intro (Nat.le_refl _) ?_)
    intro z Mz hq
    have hz : z = .inl none := hq.1
    have hM : Mz = rk_up (rk_up (rk_up M1 31 0 0 (10 * (9 * s + j) + k) (M 31 0 0 (10 * (9 * s + j) + k))) 32 0 0 (10 * (9 * s + j) + k) (M 32 0 0 (10 * (9 * s + j) + k))) 33 0 0 (10 * (9 * s + j) + k) (M 33 0 0 (10 * (9 * s + j) + k)) := hq.2
    subst z Mz
    clear hq
    refine And.intro (Or.inr (Or.inr (Or.inr ⟨hth, hpl, hst, ⟨v, rfl, ?_⟩, ?_, ?_⟩))) (Nat.le_refl _)
    · have h2 : mo_ns (vw (rk_up M 30 0 0 0 0)) s j k pl v := hns
      rw [h0.vw] at h2
      exact fj ▸ h2
    · intro t o r i a b c
      by_cases hc : (t = 31 ∨ t = 32 ∨ t = 33) ∧ o = 0 ∧ r = 0 ∧ i = 10 * (9 * s + j) + k
      · obtain ⟨ht, rfl, rfl, rfl⟩ := hc
        unfold rk_up
        rcases ht with rfl | rfl | rfl <;> simp
      · rw [rk_up_ne (by omega), rk_up_ne (by omega), rk_up_ne (by omega), hA t o r i a b hc]
        exact h0.1 t o r i a b c
    · rw [rk_up_off (by omega), rk_up_off (by omega), rk_up_off (by omega), hA _ _ _ _ (by omega) (by omega) (by omega)]
      exact h0.2
  have lp : ((0 ≤ s ∧ s < 3) ∧ 0 ≤ k ∧ k < M 30 0 0 1) → (1 ≤ pl ∧ pl ≤ 10) → vw M 11 s 0 k ≠ 0 → ∀ (i : Nat) (x4 x6 x7 x8 x9 x10 : rk_V), i ≤ (M 30 0 0 2).toNat → 0 < rs_pan (vw M) s i → rs_la (vw M) s (M 30 0 0 2).toNat = rs_la (vw M) s i → G (rk_up M 30 0 0 0 0) 75 [rk_r 30 0 0, rk_i s, rk_i k, rk_i pl, x4, rk_i ((i : Int) - 1), x6, x7, x8, x9, x10] [] 0 := by
    intro hth hpl hst i
    have hs := hth.1
    induction i with
    | zero => intro x4 x6 x7 x8 x9 x10 _ h; exact absurd h (Int.lt_irrefl 0)
    | succ i ih =>
      intro x4 x6 x7 x8 x9 x10 hi hpan hla
      have hv : vw M 12 s 0 i = M 35 0 0 (9 * s + i) := vw_sr hs (by omega)
      have ei : ((i + 1 : Nat) : Int) - 1 = i := by omega
      rw [ei]
      refine hG 20 _ _ _ _ _ rfl ?_
      refine And.intro (And.intro (by omega) (by omega)) ?_
      refine And.intro (And.intro (by omega) (by omega)) ?_
      refine And.intro (And.intro (by omega) (by show _ < (27 : Int); omega)) ?_
      rw [show rk_up M 30 0 0 0 0 35 0 0 (9 * s + i) = vw M 12 s 0 i from (rk_up_off (by omega)).trans hv.symm]
      refine And.intro ?_ ?_
      · intro h
        refine rk_gto (f96 x4 x6 x7 x8 x9 x10 hth hpl hst) rfl ?_ rfl
        rw [hla]
        unfold rs_la
        rw [if_pos h]
      · intro h
        have e1 : rs_pan (vw M) s (i + 1) = rs_pan (vw M) s i := rk_ct_f h
        have e2 : rs_la (vw M) s (i + 1) = rs_la (vw M) s i := by conv => lhs; unfold rs_la
                                                                  rw [if_neg h]
        have hp0 : 0 < rs_pan (vw M) s i := by rw [← e1]; exact hpan
        have hi1 : 1 ≤ i := by
          cases i with
          | zero => exact absurd hp0 (Int.lt_irrefl 0)
          | succ q => omega
        refine And.intro (And.intro (by omega) (by omega)) ?_
        refine rk_gto (ih x4 x6 x7 x8 x9 x10 (by omega) hp0 (hla.trans e2)) rfl ?_ rfl
        rw [show (i : Int) - 1 = i + -1 by omega]; rfl
  have f48 : ∀ (v : Int) (x4 x5 x6 x7 x8 x9 x10 : rk_V), (v = 1 ∧ ¬ ((0 ≤ s ∧ s < 3) ∧ 0 ≤ k ∧ k < M 30 0 0 1)) ∨ (v = 2 ∧ ((0 ≤ s ∧ s < 3) ∧ 0 ≤ k ∧ k < M 30 0 0 1) ∧ ¬ (1 ≤ pl ∧ pl ≤ 10)) ∨ (v = 0 ∧ ((0 ≤ s ∧ s < 3) ∧ 0 ≤ k ∧ k < M 30 0 0 1) ∧ (1 ≤ pl ∧ pl ≤ 10)) → G M 48 [rk_r 30 0 0, rk_i s, rk_i k, rk_i pl, x4, x5, x6, x7, x8, x9, x10] [rk_i v, rk_r 30 0 0] 0 := by
    intro v x4 x5 x6 x7 x8 x9 x10 hw
    refine hG 60 _ _ _ _ _ rfl ?_
    refine And.intro (And.intro rfl (show pr_mo_refused M v from trivial)) (And.intro (Nat.le_refl _) ?_)
    intro z Mz hq
    have hz : z = rk_one (if 0 < v then 1 else 0) := hq.1
    have hM : Mz = rk_up M 30 0 0 0 v := hq.2
    subst z Mz
    clear hq
    refine And.intro ?_ ?_
    · intro h
      have c := rk_b0 h
      rcases hw with ⟨rfl, h1⟩ | ⟨rfl, h1, h2⟩ | ⟨rfl, h1, h2⟩
      · omega
      · omega
      have hs := h1.1
      have e1 := h0.sk
      have e2 := h0.ju
      refine And.intro (And.intro rfl (show pr_mo_starts (rk_up M 30 0 0 0 0) s k from ⟨by omega, by omega⟩)) (And.intro (Nat.le_refl _) ?_)
      intro z Mz hq
      have hz : z = rk_one (vw M 11 s 0 k) := hq.1.trans (congrArg rk_one ((mo_st (i := k) hs (by omega)).trans (by rw [h0.vw])))
      have hM : Mz = rk_up M 30 0 0 0 0 := hq.2
      subst z Mz
      clear hq
      refine And.intro ?_ ?_
      · intro h3
        refine And.intro (And.intro (by omega) (by omega)) ?_
        refine rk_gto (lp h1 h2 h3 (M 30 0 0 2).toNat x4 x6 x7 x8 x9 x10 (Nat.le_refl _) (hmi.2 s hs.1 hs.2).2.1 rfl) rfl ?_ rfl
        rw [show (((M 30 0 0 2).toNat : Nat) : Int) - 1 = rk_up M 30 0 0 0 0 30 0 0 2 - 1 by omega]; rfl
      · intro h3
        exact And.intro (Or.inr (Or.inr (Or.inl ⟨h1, h2, h3, rfl, h0⟩))) (Nat.le_refl _)
    · intro h
      have c := rk_b1 h
      rcases hw with ⟨rfl, h1⟩ | ⟨rfl, h1, h2⟩ | ⟨rfl, h1⟩
      · exact And.intro (Or.inl ⟨h1, rfl, mo_fr_0 M 1⟩) (Nat.le_refl _)
      · exact And.intro (Or.inr (Or.inl ⟨h1, h2, rfl, mo_fr_0 M 2⟩)) (Nat.le_refl _)
      · omega
  have f22 : ∀ (v : Int) (x5 x6 x7 x8 x9 x10 : rk_V), (v = 1 ∧ ((0 ≤ s ∧ s < 3) ∧ 0 ≤ k ∧ k < M 30 0 0 1)) ∨ (v = 0 ∧ ¬ ((0 ≤ s ∧ s < 3) ∧ 0 ≤ k ∧ k < M 30 0 0 1)) → G M 22 [rk_r 30 0 0, rk_i s, rk_i k, rk_i pl, rk_i v, x5, x6, x7, x8, x9, x10] [] 0 := by
    intro v x5 x6 x7 x8 x9 x10 hv
    refine hG 40 _ _ _ _ _ rfl ?_
    repeat' (first | refine And.intro ?_ ?_ | intro _)
    all_goals exact f48 _ _ _ _ _ _ _ _ (by omega)
  refine hG 40 _ _ _ _ _ rfl ?_
  refine And.intro (And.intro rfl (show pr_mo_isSegment M s from trivial)) (And.intro (Nat.le_refl _) ?_)
  intro z Mz hq
  have hz : z = rk_one (if 0 ≤ s ∧ s < 3 then 1 else 0) := hq.1
  have hM : Mz = M := hq.2
  subst z Mz
  clear hq
  refine And.intro ?_ ?_
  · intro h
    have c := rk_b0 h
    exact f22 _ _ _ _ _ _ _ (by omega)
  · intro h
    have c := rk_b1 h
    refine And.intro (And.intro rfl (show pr_mo_isSkater M k from trivial)) (And.intro (Nat.le_refl _) ?_)
    intro z Mz hq
    have hz : z = rk_one (if 0 ≤ k ∧ k < M 30 0 0 1 then 1 else 0) := hq.1
    have hM : Mz = M := hq.2
    subst z Mz
    clear hq
    refine And.intro ?_ ?_
    · intro h2
      have c2 := rk_b0 h2
      exact f22 _ _ _ _ _ _ _ (by omega)
    · intro h2
      have c2 := rk_b1 h2
      exact f22 _ _ _ _ _ _ _ (by omega)
end
section
/-! Contracts of the reference: what is written and read -/
/-- a number below a hundred, written -/
def tx_n (v : Int) : List Int := if v < 10 then [48 + v] else [48 + v / 10, 48 + v % 10]
def mo_wn (M : rk_M) (v : Int) : rk_M := if v < 10 then rk_up (rk_up M 44 0 0 (M 30 0 0 17) (48 + v)) 30 0 0 17 (M 30 0 0 17 + 1) else rk_up (rk_up (rk_up (rk_up M 44 0 0 (M 30 0 0 17) (48 + v / 10)) 30 0 0 17 (M 30 0 0 17 + 1)) 44 0 0 (M 30 0 0 17 + 1) (48 + v % 10)) 30 0 0 17 (M 30 0 0 17 + 1 + 1)
def pr_mo_writeNumber (M : rk_M) (v : Int) : Prop := (0 ≤ v ∧ v < 100) ∧ 0 ≤ M 30 0 0 17 ∧ M 30 0 0 17 < 58
def po_mo_writeNumber (M : rk_M) (v : Int) (z : rk_Z) (M' : rk_M) : Prop := z = .inl none ∧ M' = mo_wn M v
def pp_mo_writeNumber (as : List rk_V) (M : rk_M) : Prop := as = [rk_r 30 0 0, rk_i (rk_ai as 1)] ∧ pr_mo_writeNumber M (rk_ai as 1)
def qq_mo_writeNumber (as : List rk_V) (M : rk_M) (z : rk_Z) (M' : rk_M) : Prop := po_mo_writeNumber M (rk_ai as 1) z M'
set_option maxHeartbeats 1000000 in
set_option maxRecDepth 20000 in
theorem c_mo_writeNumber (l : Launch) : rk_Sp l rk_cs yn_mo_writeNumber (.code yn_mo_writeNumber prog_5_method_39_code 3 none) 0 pp_mo_writeNumber qq_mo_writeNumber 0 := by
  refine rk_mk (kc := kc_mo_writeNumber) (ft := ft_mo) (ca := []) (th := []) (stops := []) (rt := 0) ck_mo_writeNumber ftc_mo (fun _ h => absurd h List.not_mem_nil) (fun _ h => absurd h List.not_mem_nil) (Or.inl ⟨rfl, rfl⟩) (by decide +kernel) (fun as M h => by rw [h.1]; exact ⟨Nat.le_of_ble_eq_true rfl, rk_nlok rfl⟩) ?_
  intro L as M G hp hrg hG
  obtain ⟨has, hP⟩ := hp
  generalize rk_ai as 1 = v at has hP
  subst has
  obtain ⟨hv, hw0, hw1⟩ := hP
  have e1 : v / 1 = v := Int.ediv_one v
  refine hG 120 _ _ _ _ _ rfl ?_
  refine And.intro (And.intro (by omega) (by omega)) ?_
  refine And.intro ?_ ?_
  · intro h
    refine And.intro (fun q => absurd q (by decide)) (fun _ => ?_)
    have e17 : rk_up M 44 0 0 (M 30 0 0 17) (48 + v / 1 % 10) 30 0 0 17 = M 30 0 0 17 := rk_up_off (by omega)
    refine And.intro (And.intro (by omega) (by omega)) ?_
    refine And.intro (And.intro (by omega) (by omega)) ?_
    refine And.intro (And.intro (by omega) (by omega)) ?_
    refine And.intro (And.intro (by omega) (by show _ < (60 : Int); omega)) ?_
    refine And.intro (And.intro (by omega) (by omega)) ?_
    refine And.intro (And.intro (by omega) (by omega)) ?_
    refine And.intro (fun _ => ?_) (fun q => absurd q (by decide))
    refine And.intro rfl (And.intro (And.intro rfl ?_) (Nat.le_refl _))
    show rk_up (rk_up M 44 0 0 (M 30 0 0 17) (48 + v / 1 % 10)) 30 0 0 17 (rk_up M 44 0 0 (M 30 0 0 17) (48 + v / 1 % 10) 30 0 0 17 + 1) = mo_wn M v
    rw [e17, e1, show v % 10 = v by omega]
    unfold mo_wn
    rw [if_pos (by omega)]
  · intro h
    refine And.intro (And.intro (by omega) (by omega)) ?_
    refine And.intro (And.intro (by omega) (by omega)) ?_
    refine And.intro (fun _ => ?_) (fun q => by omega)
    refine And.intro (fun q => absurd q (by decide)) (fun _ => ?_)
    have e17 : rk_up M 44 0 0 (M 30 0 0 17) (48 + v / (10 * 1) % 10) 30 0 0 17 = M 30 0 0 17 := rk_up_off (by omega)
    refine And.intro (And.intro (by omega) (by omega)) ?_
    refine And.intro (And.intro (by omega) (by omega)) ?_
    refine And.intro (And.intro (by omega) (by omega)) ?_
    refine And.intro (And.intro (by omega) (by show _ < (60 : Int); omega)) ?_
    refine And.intro (And.intro (by omega) (by omega)) ?_
    refine And.intro (And.intro (by omega) (by omega)) ?_
    refine And.intro (fun q => absurd q (by decide)) (fun _ => ?_)
    have e2 : rk_up (rk_up M 44 0 0 (M 30 0 0 17) (48 + v / (10 * 1) % 10)) 30 0 0 17 (rk_up M 44 0 0 (M 30 0 0 17) (48 + v / (10 * 1) % 10) 30 0 0 17 + 1) 30 0 0 17 = M 30 0 0 17 + 1 := by rw [rk_up_self, e17]
    have e3 : v / (10 * 1 / 10) % 10 = v % 10 := by rw [show (10 * 1 / 10 : Int) = 1 by decide, e1]
    have e4 : v / (10 * 1) % 10 = v / 10 := by omega
    refine And.intro (And.intro (by omega) (by omega)) ?_
    refine And.intro (And.intro (by omega) (by omega)) ?_
    refine And.intro (And.intro (by omega) (by omega)) ?_
    refine And.intro (And.intro (by omega) (by show _ < (60 : Int); omega)) ?_
    have e5 : ∀ x, rk_up (rk_up (rk_up M 44 0 0 (M 30 0 0 17) (48 + v / (10 * 1) % 10)) 30 0 0 17 (rk_up M 44 0 0 (M 30 0 0 17) (48 + v / (10 * 1) % 10) 30 0 0 17 + 1)) 44 0 0 (rk_up (rk_up M 44 0 0 (M 30 0 0 17) (48 + v / (10 * 1) % 10)) 30 0 0 17 (rk_up M 44 0 0 (M 30 0 0 17) (48 + v / (10 * 1) % 10) 30 0 0 17 + 1) 30 0 0 17) x 30 0 0 17 = M 30 0 0 17 + 1 := fun x => by rw [rk_up_off (by omega), e2]
    have e5' := e5 (48 + v / (10 * 1 / 10) % 10)
    refine And.intro (And.intro (by omega) (by omega)) ?_
    refine And.intro (And.intro (by omega) (by omega)) ?_
    refine And.intro (fun _ => ?_) (fun q => absurd q (by decide))
    refine And.intro rfl (And.intro (And.intro rfl ?_) (Nat.le_refl _))
    show rk_up (rk_up (rk_up (rk_up M 44 0 0 (M 30 0 0 17) (48 + v / (10 * 1) % 10)) 30 0 0 17 (rk_up M 44 0 0 (M 30 0 0 17) (48 + v / (10 * 1) % 10) 30 0 0 17 + 1)) 44 0 0 (rk_up (rk_up M 44 0 0 (M 30 0 0 17) (48 + v / (10 * 1) % 10)) 30 0 0 17 (rk_up M 44 0 0 (M 30 0 0 17) (48 + v / (10 * 1) % 10) 30 0 0 17 + 1) 30 0 0 17) (48 + v / (10 * 1 / 10) % 10)) 30 0 0 17 (rk_up (rk_up (rk_up M 44 0 0 (M 30 0 0 17) (48 + v / (10 * 1) % 10)) 30 0 0 17 (rk_up M 44 0 0 (M 30 0 0 17) (48 + v / (10 * 1) % 10) 30 0 0 17 + 1)) 44 0 0 (rk_up (rk_up M 44 0 0 (M 30 0 0 17) (48 + v / (10 * 1) % 10)) 30 0 0 17 (rk_up M 44 0 0 (M 30 0 0 17) (48 + v / (10 * 1) % 10) 30 0 0 17 + 1) 30 0 0 17) (48 + v / (10 * 1 / 10) % 10) 30 0 0 17 + 1) = mo_wn M v
    rw [e5', e2, e17, e3, e4]
    unfold mo_wn
    rw [if_neg (by omega)]
/-- a row of characters and its length -/
def pg (M : rk_M) (l : List Int) : Prop := M 30 0 0 17 = l.length ∧ ∀ i : Nat, i < l.length → M 44 0 0 i = l.getD i 0
theorem tx_n_l (v : Int) : 1 ≤ (tx_n v).length ∧ (tx_n v).length ≤ 2 := by unfold tx_n; split <;> simp
theorem pg_1 {M : rk_M} {l : List Int} (h : pg M l) (c : Int) : pg (rk_up (rk_up M 44 0 0 (M 30 0 0 17) c) 30 0 0 17 (M 30 0 0 17 + 1)) (l ++ [c]) := by
  refine ⟨by rw [rk_up_self, h.1]; simp, fun i hi => ?_⟩
  rw [rk_up_off (by omega)]
  simp at hi
  by_cases e : i = l.length
  · subst e
    rw [h.1, rk_up_self]
    simp
  · rw [rk_up_ne (by rw [h.1]; omega), h.2 i (by omega)]
    rw [List.getD_eq_getElem?_getD, List.getD_eq_getElem?_getD, List.getElem?_append_left (by omega)]
theorem pg_c {M : rk_M} {l : List Int} (h : pg M l) (c : Int) : pg (rk_up (rk_up M 44 0 0 (M 30 0 0 17) c) 30 0 0 17 (rk_up M 44 0 0 (M 30 0 0 17) c 30 0 0 17 + 1)) (l ++ [c]) := by
  have e17 : rk_up M 44 0 0 (M 30 0 0 17) c 30 0 0 17 = M 30 0 0 17 := rk_up_off (by omega)
  rw [e17]
  exact pg_1 h c
theorem pg_n {M : rk_M} {l : List Int} (h : pg M l) (v : Int) : pg (mo_wn M v) (l ++ tx_n v) := by
  unfold mo_wn tx_n
  split
  · exact pg_1 h _
  · have h1 := pg_1 h (48 + v / 10)
    have h2 := pg_1 h1 (48 + v % 10)
    rw [List.append_assoc] at h2
    have e : rk_up (rk_up M 44 0 0 (M 30 0 0 17) (48 + v / 10)) 30 0 0 17 (M 30 0 0 17 + 1) 30 0 0 17 = M 30 0 0 17 + 1 := rk_up_self
    rw [e] at h2
    exact h2
def mo_f5 (M M' : rk_M) : Prop := ∀ t o r i, t ≠ 44 → ¬ (t = 30 ∧ i = 17) → M' t o r i = M t o r i
theorem mo_wn_f (M : rk_M) (v : Int) : mo_f5 M (mo_wn M v) := by
  intro t o r i a b
  unfold mo_wn
  split
  · rw [rk_up_ne (by omega), rk_up_off (by omega)]
  · rw [rk_up_ne (by omega), rk_up_off (by omega), rk_up_ne (by omega), rk_up_off (by omega)]
/-- the proof of a place, in characters -/
def tx_p (g : Int → Int) (k : Int) : Nat → List Int
  | 0 => tx_n k
  | n + 1 => tx_p g k n ++ [32] ++ tx_n (g n)
theorem tx_p_l (g : Int → Int) (k : Int) : ∀ n : Nat, (tx_p g k n).length ≤ 2 + 3 * n
  | 0 => (tx_n_l k).2
  | n + 1 => by
    have h := tx_p_l g k n
    have h2 := (tx_n_l (g n)).2
    unfold tx_p
    simp
    omega
theorem rk_mjf_b (c : Int → Int) (p : Int) : ∀ (f : Nat) (m : Int), m ≤ rk_mjf c p f m ∧ rk_mjf c p f m ≤ m + f
  | 0, m => by unfold rk_mjf; omega
  | f + 1, m => by
    have h := rk_mjf_b c p f (m + 1)
    unfold rk_mjf
    split <;> omega
theorem rf_g_b {M : rk_M} {o : Int} (h : rs_ok M o) (w k : Int) : 0 ≤ rf_g M o w k ∧ rf_g M o w k < 100 := by
  obtain ⟨a0, a1, a2, a3, _, _⟩ := h
  have hod : ∀ j, 1 ≤ rs_od M o j k ∧ rs_od M o j k ≤ 11 := fun j => rs_od_b M o j k a0 a1
  have hs : ∀ lim, 0 ≤ rf_s M o lim k ∧ rf_s M o lim k ≤ 11 * ((M 10 o 0 4).toNat : Int) := fun lim => rk_sm_b (fun j => by have := hod j; split <;> omega) _
  have hc : ∀ lim, 0 ≤ rf_c M o lim k ∧ rf_c M o lim k ≤ ((M 10 o 0 4).toNat : Int) := fun lim => rk_ct_b _ _ _
  have hm := rk_mjf_b (fun m => rf_c M o m k) (rs_pan M o (M 10 o 0 4).toNat) (M 10 o 0 3 - 1).toNat 1
  change 1 ≤ rf_m M o k ∧ rf_m M o k ≤ 1 + ((M 10 o 0 3 - 1).toNat : Int) at hm
  have h1 := hs (rf_m M o k)
  have h2 := hs (M 10 o 0 3)
  have h3 := hc (rf_m M o k)
  unfold rf_g
  repeat' split
  all_goals omega
theorem mo_re_b {M : rk_M} {s : Int} (h : mv M s) (k w : Int) : 0 ≤ mo_re M s k w ∧ mo_re M s k w < 100 := by
  have h1 := rf_g_b h.2.1 w k
  have h2 := rf_pl_b (vw M) s k h.2.1.1 h.2.1.2.1
  unfold mo_re
  split <;> omega
def pr_mo_proof (M : rk_M) (s k : Int) : Prop := mi M
def po_mo_proof (M : rk_M) (s k : Int) (z : rk_Z) (M' : rk_M) : Prop := (¬ ((0 ≤ s ∧ s < 3) ∧ 0 ≤ k ∧ k < M 30 0 0 1) ∧ z = rk_one 0 ∧ mo_fr M 1 M') ∨ (((0 ≤ s ∧ s < 3) ∧ 0 ≤ k ∧ k < M 30 0 0 1) ∧ (rs_com (vw M) s = 0 ∨ vw M 11 s 0 k = 0) ∧ z = rk_one 0 ∧ mo_fr M 2 M') ∨ (((0 ≤ s ∧ s < 3) ∧ 0 ≤ k ∧ k < M 30 0 0 1) ∧ (rs_com (vw M) s ≠ 0 ∧ vw M 11 s 0 k ≠ 0) ∧ z = rk_one (tx_p (fun w => mo_re M s k w) k 5).length ∧ (∀ t o r i, t ≠ 40 → t ≠ 41 → t ≠ 44 → ¬ (t = 30 ∧ i = 0) → ¬ (t = 30 ∧ i = 17) → M' t o r i = M t o r i) ∧ M' 30 0 0 0 = 0 ∧ pg M' (tx_p (fun w => mo_re M s k w) k 5))
def pp_mo_proof (as : List rk_V) (M : rk_M) : Prop := as = [rk_r 30 0 0, rk_i (rk_ai as 1), rk_i (rk_ai as 2)] ∧ pr_mo_proof M (rk_ai as 1) (rk_ai as 2)
def qq_mo_proof (as : List rk_V) (M : rk_M) (z : rk_Z) (M' : rk_M) : Prop := po_mo_proof M (rk_ai as 1) (rk_ai as 2) z M'
set_option maxHeartbeats 1000000 in
set_option maxRecDepth 20000 in
theorem c_mo_proof (l : Launch) : rk_Sp l rk_cs yn_mo_proof (.code yn_mo_proof prog_5_method_40_code 5 (some .int)) 4 pp_mo_proof qq_mo_proof 0 := by
  refine rk_mk (kc := kc_mo_proof) (ft := ft_mo) (ca := [(2 * 70 + 1, (1, pp_mo_isSegment, qq_mo_isSegment, 0)), (2 * 76, (2, pp_mo_isSkater, qq_mo_isSkater, 0)), (2 * 118, (2, pp_mo_reckon, qq_mo_reckon, 0)), (2 * 94, (3, pp_mo_starts, qq_mo_starts, 0)), (2 * 66, (2, pp_mo_refused, qq_mo_refused, 0)), (2 * 144, (2, pp_mo_writeNumber, qq_mo_writeNumber, 0)), (2 * 121, (4, pp_mo_result, qq_mo_result, 0))]) (th := []) (stops := [21, 52, 73]) (rt := 1) ck_mo_proof ftc_mo (List.forall_mem_cons.mpr ⟨rk_ckS (n := 1) (c_mo_isSegment l) ww_mo_isSegment lk_mo_70 (by decide) (by decide) (by decide) (by decide +kernel), List.forall_mem_cons.mpr ⟨rk_ckV (n := 1) (c_mo_isSkater l) ww_mo_isSkater lk_mo_76 (by decide) (by decide) (by decide) (by decide +kernel) (fun as M h => ⟨_, _, _, _, h.1, rk_rcv_mo⟩), List.forall_mem_cons.mpr ⟨rk_ckV (n := 1) (c_mo_reckon l) ww_mo_reckon lk_mo_118 (by decide) (by decide) (by decide) (by decide +kernel) (fun as M h => ⟨_, _, _, _, h.1, rk_rcv_mo⟩), List.forall_mem_cons.mpr ⟨rk_ckV (n := 2) (c_mo_starts l) ww_mo_starts lk_mo_94 (by decide) (by decide) (by decide) (by decide +kernel) (fun as M h => ⟨_, _, _, _, h.1, rk_rcv_mo⟩), List.forall_mem_cons.mpr ⟨rk_ckV (n := 1) (c_mo_refused l) ww_mo_refused lk_mo_66 (by decide) (by decide) (by decide) (by decide +kernel) (fun as M h => ⟨_, _, _, _, h.1, rk_rcv_mo⟩), List.forall_mem_cons.mpr ⟨rk_ckV (n := 1) (c_mo_writeNumber l) ww_mo_writeNumber lk_mo_144 (by decide) (by decide) (by decide) (by decide +kernel) (fun as M h => ⟨_, _, _, _, h.1, rk_rcv_mo⟩), List.forall_mem_cons.mpr ⟨rk_ckV (n := 3) (c_mo_result l) ww_mo_result lk_mo_121 (by decide) (by decide) (by decide) (by decide +kernel) (fun as M h => ⟨_, _, _, _, h.1, rk_rcv_mo⟩), fun _ h => absurd h List.not_mem_nil⟩⟩⟩⟩⟩⟩⟩) (fun _ h => absurd h List.not_mem_nil) (Or.inr (Or.inl ⟨rfl, rfl⟩)) (by decide +kernel) (fun as M h => by rw [h.1]; exact ⟨Nat.le_of_ble_eq_true rfl, rk_nlok rfl⟩) ?_
  intro L as M G hp hrg hG
  obtain ⟨has, hP⟩ := hp
  generalize rk_ai as 1 = s at has hP
  generalize rk_ai as 2 = k at has hP
  subst has
  have hmi : mi M := hP
  have hbb := hmi.1
  have lp : ((0 ≤ s ∧ s < 3) ∧ 0 ≤ k ∧ k < M 30 0 0 1) → (rs_com (vw M) s ≠ 0 ∧ vw M 11 s 0 k ≠ 0) → ∀ (M1 : rk_M), mo_rk M s M1 → ∀ i : Nat, i ≤ 5 → ∀ (M2 : rk_M) (x3 : rk_V), mo_f5 (rk_up M1 30 0 0 0 0) M2 → pg M2 (tx_p (fun w => mo_re M s k w) k i) → G M2 73 [rk_r 30 0 0, rk_i s, rk_i k, x3, rk_i i] [] 0 := by
    intro hth hc M1 hM1
    have hs := hth.1
    have hm := hmi.2 s hs.1 hs.2
    refine rk_loop 5 ?_
    intro i hi hnext M2 x3 hf hpg
    have hl := tx_p_l (fun w => mo_re M s k w) k i
    have h17 := hpg.1
    refine hG 60 _ _ _ _ _ rfl ?_
    refine And.intro ?_ ?_
    · intro h
      have hi' : i = 5 := by omega
      subst hi'
      refine And.intro (Or.inr (Or.inr ⟨hth, hc, ?_, ?_, ?_, hpg⟩)) (Nat.le_refl _)
      · exact congrArg rk_one h17
      · intro t o r q a b c d e
        exact (hf t o r q c e).trans ((rk_up_ne (by omega)).trans (hM1.1 t o r q a b))
      · exact (hf _ _ _ _ (by omega) (by omega)).trans rk_up_self
    · intro h
      have hpg1 := pg_c hpg 32
      have e17 : rk_up M2 44 0 0 (M2 30 0 0 17) 32 30 0 0 17 = M2 30 0 0 17 := rk_up_off (by omega)
      refine And.intro (And.intro (by omega) (by show _ < (60 : Int); omega)) ?_
      refine And.intro (And.intro (by omega) (by omega)) ?_
      have hf3 : mo_f5 (rk_up M1 30 0 0 0 0) (rk_up (rk_up M2 44 0 0 (M2 30 0 0 17) 32) 30 0 0 17 (rk_up M2 44 0 0 (M2 30 0 0 17) 32 30 0 0 17 + 1)) := by
        intro t o r q a b
        rw [rk_up_ne (by omega), rk_up_off (by omega)]
        exact hf t o r q a b
      have h41 : ∀ q, rk_up (rk_up M2 44 0 0 (M2 30 0 0 17) 32) 30 0 0 17 (rk_up M2 44 0 0 (M2 30 0 0 17) 32 30 0 0 17 + 1) 41 0 0 q = M1 41 0 0 q := fun q => (hf3 _ _ _ _ (by omega) (by omega)).trans (rk_up_off (by omega))
      have hl3 := hpg1.1
      simp at hl3
      have hx : ∀ t o r q, t < 40 → ¬ (t = 30 ∧ (q = 0 ∨ q = 14 ∨ q = 17)) → rk_up (rk_up M2 44 0 0 (M2 30 0 0 17) 32) 30 0 0 17 (rk_up M2 44 0 0 (M2 30 0 0 17) 32 30 0 0 17 + 1) t o r q = M t o r q := fun t o r q a b => (hf3 t o r q (by omega) (by omega)).trans ((rk_up_ne (by omega)).trans (hM1.1 t o r q (by omega) (by omega)))
      have hv3 := vw_congr hx
      have hpo : mo_po (rk_up (rk_up M2 44 0 0 (M2 30 0 0 17) 32) 30 0 0 17 (rk_up M2 44 0 0 (M2 30 0 0 17) 32 30 0 0 17 + 1)) s k := by
        refine ⟨hm.1.congr hx, hth.2.1, by rw [hx _ _ _ _ (by omega) (by omega)]; exact hth.2.2, by rw [hv3]; exact hc.2, ?_⟩
        have hr := hM1.2 hc.1
        unfold mo_rs at hr ⊢
        rw [hv3, hx 30 0 0 1 (by omega) (by omega)]
        intro k' a b c w d e
        rw [h41]
        exact hr k' a b c w d e
      have hrb := mo_re_b hm.1 k i
      refine And.intro (And.intro rfl (show pr_mo_result (rk_up (rk_up M2 44 0 0 (M2 30 0 0 17) 32) 30 0 0 17 (rk_up M2 44 0 0 (M2 30 0 0 17) 32 30 0 0 17 + 1)) s k i from ⟨hpo, by omega, by omega⟩)) (And.intro (Nat.le_refl _) ?_)
      intro z Mz hq
      have hz : z = rk_one (mo_re M s k i) := hq.1.trans (congrArg rk_one (show mo_re (rk_up (rk_up M2 44 0 0 (M2 30 0 0 17) 32) 30 0 0 17 (rk_up M2 44 0 0 (M2 30 0 0 17) 32 30 0 0 17 + 1)) s k i = _ by unfold mo_re; rw [hv3]))
      have hM : Mz = rk_up (rk_up M2 44 0 0 (M2 30 0 0 17) 32) 30 0 0 17 (rk_up M2 44 0 0 (M2 30 0 0 17) 32 30 0 0 17 + 1) := hq.2
      subst z Mz
      clear hq
      refine And.intro (And.intro rfl (show pr_mo_writeNumber (rk_up (rk_up M2 44 0 0 (M2 30 0 0 17) 32) 30 0 0 17 (rk_up M2 44 0 0 (M2 30 0 0 17) 32 30 0 0 17 + 1)) (mo_re M s k i) from ⟨hrb, by omega, by omega⟩)) (And.intro (Nat.le_refl _) ?_)
      intro z Mz hq
      have hz : z = .inl none := hq.1
      have hM : Mz = mo_wn (rk_up (rk_up M2 44 0 0 (M2 30 0 0 17) 32) 30 0 0 17 (rk_up M2 44 0 0 (M2 30 0 0 17) 32 30 0 0 17 + 1)) (mo_re M s k i) := hq.2
      subst z Mz
      clear hq
      refine And.intro (And.intro (by omega) (by omega)) ?_
      refine rk_gto (hnext (by omega) _ x3 ?_ ?_) rfl rfl rfl
      · intro t o r q a b
        exact (mo_wn_f _ _ t o r q a b).trans (hf3 t o r q a b)
      · exact pg_n hpg1 (mo_re M s k i)
  have f52 : ∀ (M1 : rk_M) (v : Int) (x3 x4 : rk_V), mo_f2 M M1 → (v = 1 ∧ ¬ ((0 ≤ s ∧ s < 3) ∧ 0 ≤ k ∧ k < M 30 0 0 1)) ∨ (v = 2 ∧ ((0 ≤ s ∧ s < 3) ∧ 0 ≤ k ∧ k < M 30 0 0 1) ∧ (rs_com (vw M) s = 0 ∨ vw M 11 s 0 k = 0)) ∨ (v = 0 ∧ ((0 ≤ s ∧ s < 3) ∧ 0 ≤ k ∧ k < M 30 0 0 1) ∧ (rs_com (vw M) s ≠ 0 ∧ vw M 11 s 0 k ≠ 0) ∧ mo_rk M s M1) → G M1 52 [rk_r 30 0 0, rk_i s, rk_i k, x3, x4] [rk_i v, rk_r 30 0 0] 0 := by
    intro M1 v x3 x4 hA hw
    have hfr : ∀ f, mo_fr M f (rk_up M1 30 0 0 0 f) := fun f => ⟨fun t o r i a b c => (rk_up_ne (by omega)).trans (hA t o r i a b), rk_up_self⟩
    refine hG 60 _ _ _ _ _ rfl ?_
    refine And.intro (And.intro rfl (show pr_mo_refused M1 v from trivial)) (And.intro (Nat.le_refl _) ?_)
    intro z Mz hq
    have hz : z = rk_one (if 0 < v then 1 else 0) := hq.1
    have hM : Mz = rk_up M1 30 0 0 0 v := hq.2
    subst z Mz
    clear hq
    refine And.intro ?_ ?_
    · intro h
      have c := rk_b0 h
      rcases hw with ⟨rfl, h1⟩ | ⟨rfl, h1, h2⟩ | ⟨rfl, h1, h2, h3⟩
      · omega
      · omega
      have e17 : rk_up (rk_up M1 30 0 0 0 0) 30 0 0 17 0 30 0 0 17 = 0 := rk_up_self
      have hp0 : pg (rk_up (rk_up M1 30 0 0 0 0) 30 0 0 17 0) [] := ⟨by rw [e17]; rfl, fun i hi => absurd hi (Nat.not_lt_zero i)⟩
      refine And.intro (And.intro rfl (show pr_mo_writeNumber (rk_up (rk_up M1 30 0 0 0 0) 30 0 0 17 0) k from ⟨by omega, by omega, by omega⟩)) (And.intro (Nat.le_refl _) ?_)
      intro z Mz hq
      have hz : z = .inl none := hq.1
      have hM : Mz = mo_wn (rk_up (rk_up M1 30 0 0 0 0) 30 0 0 17 0) k := hq.2
      subst z Mz
      clear hq
      refine rk_gto (lp h1 h2 M1 h3 0 (Nat.zero_le _) (mo_wn (rk_up (rk_up M1 30 0 0 0 0) 30 0 0 17 0) k) x3 ?_ (pg_n hp0 k)) rfl rfl rfl
      intro t o r q a b
      exact (mo_wn_f _ _ t o r q a b).trans (rk_up_ne (by omega))
    · intro h
      have c := rk_b1 h
      rcases hw with ⟨rfl, h1⟩ | ⟨rfl, h1, h2⟩ | ⟨rfl, h1⟩
      · exact And.intro (Or.inl ⟨h1, rfl, hfr 1⟩) (Nat.le_refl _)
      · exact And.intro (Or.inr (Or.inl ⟨h1, h2, rfl, hfr 2⟩)) (Nat.le_refl _)
      · omega
  have f0 : mo_f2 M M := fun _ _ _ _ _ _ => rfl
  have f21 : ∀ (v : Int) (x4 : rk_V), (v = 1 ∧ ((0 ≤ s ∧ s < 3) ∧ 0 ≤ k ∧ k < M 30 0 0 1)) ∨ (v = 0 ∧ ¬ ((0 ≤ s ∧ s < 3) ∧ 0 ≤ k ∧ k < M 30 0 0 1)) → G M 21 [rk_r 30 0 0, rk_i s, rk_i k, rk_i v, x4] [] 0 := by
    intro v x4 hv
    refine hG 40 _ _ _ _ _ rfl ?_
    refine And.intro ?_ ?_
    · intro h
      have hth : (0 ≤ s ∧ s < 3) ∧ 0 ≤ k ∧ k < M 30 0 0 1 := by omega
      have hm := hmi.2 s hth.1.1 hth.1.2
      refine And.intro (And.intro rfl (show pr_mo_reckon M s from ⟨hm.1, hm.2.1⟩)) (And.intro (Nat.le_refl _) ?_)
      intro z M1 hq
      have hz : z = rk_one (rs_com (vw M) s) := hq.1
      have hM := hq.2
      subst z
      clear hq
      have hM1 : mo_rk M s M1 := hM
      have hf : mo_f2 M M1 := hM1.1
      refine And.intro ?_ ?_
      · intro h2
        exact f52 M1 _ _ _ hf (Or.inr (Or.inl ⟨rfl, hth, Or.inl h2⟩))
      · intro h2
        have e1 : M1 30 0 0 1 = M 30 0 0 1 := hf _ _ _ _ (by omega) (by omega)
        refine And.intro (And.intro rfl (show pr_mo_starts M1 s k from ⟨by omega, by omega⟩)) (And.intro (Nat.le_refl _) ?_)
        intro z Mz hq
        have hz : z = rk_one (vw M 11 s 0 k) := hq.1.trans (congrArg rk_one ((mo_st (i := k) hth.1 (by omega)).trans (by rw [vw_congr hf.x])))
        have hM : Mz = M1 := hq.2
        subst z Mz
        clear hq
        refine And.intro ?_ ?_
        · intro h3
          exact f52 M1 _ _ _ hf (Or.inr (Or.inr ⟨rfl, hth, ⟨h2, h3⟩, hM1⟩))
        · intro h3
          exact f52 M1 _ _ _ hf (Or.inr (Or.inl ⟨rfl, hth, Or.inr h3⟩))
    · intro h
      exact f52 M _ _ _ f0 (by omega)
  refine hG 40 _ _ _ _ _ rfl ?_
  refine And.intro (And.intro rfl (show pr_mo_isSegment M s from trivial)) (And.intro (Nat.le_refl _) ?_)
  intro z Mz hq
  have hz : z = rk_one (if 0 ≤ s ∧ s < 3 then 1 else 0) := hq.1
  have hM : Mz = M := hq.2
  subst z Mz
  clear hq
  refine And.intro ?_ ?_
  · intro h
    have c := rk_b0 h
    exact f21 _ _ (by omega)
  · intro h
    have c := rk_b1 h
    refine And.intro (And.intro rfl (show pr_mo_isSkater M k from trivial)) (And.intro (Nat.le_refl _) ?_)
    intro z Mz hq
    have hz : z = rk_one (if 0 ≤ k ∧ k < M 30 0 0 1 then 1 else 0) := hq.1
    have hM : Mz = M := hq.2
    subst z Mz
    clear hq
    refine And.intro ?_ ?_
    · intro h2
      have c2 := rk_b0 h2
      exact f21 _ _ (by omega)
    · intro h2
      have c2 := rk_b1 h2
      exact f21 _ _ (by omega)
end
section
/-! Contracts of the reference: a line read -/
def rp_u (f : Int → Int) (a v : Int) : Int → Int := fun i => if i = a then v else f i
abbrev rp_gr (c d x : Int) : Prop := (48 ≤ c ∧ c ≤ 57) ∧ (d = 0 ∨ (d < 4 ∧ x ≠ 0))
/-- the state behind n characters: which number, its digits, the numbers -/
def rp (c : Int → Int) : Nat → Option (Int × Int × (Int → Int))
  | 0 => some (0, 0, fun _ => 0)
  | n + 1 => match rp c n with
    | none => none
    | some (a, d, f) => if rp_gr (c n) d (f a) then some (a, d + 1, rp_u f a (10 * f a + (c n - 48))) else if c n = 32 ∧ 0 < d ∧ a < 5 then some (a + 1, 0, f) else none
theorem rp_g {c : Int → Int} {n : Nat} {a d : Int} {f : Int → Int} (h : rp c n = some (a, d, f)) (hc : rp_gr (c n) d (f a)) : rp c (n + 1) = some (a, d + 1, rp_u f a (10 * f a + (c n - 48))) := by
  unfold rp
  rw [h]
  show (if _ then _ else _) = _
  rw [if_pos hc]
theorem rp_e {c : Int → Int} {n : Nat} {a d : Int} {f : Int → Int} (h : rp c n = some (a, d, f)) (hc : c n = 32 ∧ 0 < d ∧ a < 5) : rp c (n + 1) = some (a + 1, 0, f) := by
  unfold rp
  rw [h]
  show (if _ then _ else _) = _
  rw [if_neg (fun q => by have := q.1; omega), if_pos hc]
theorem rp_n {c : Int → Int} {n : Nat} {a d : Int} {f : Int → Int} (h : rp c n = some (a, d, f)) (h1 : ¬ rp_gr (c n) d (f a)) (h2 : ¬ (c n = 32 ∧ 0 < d ∧ a < 5)) : rp c (n + 1) = none := by
  unfold rp
  rw [h]
  show (if _ then _ else _) = _
  rw [if_neg h1, if_neg h2]
def rp_iv (a d : Int) (f : Int → Int) : Prop := (0 ≤ a ∧ a ≤ 5) ∧ (0 ≤ d ∧ d ≤ 4) ∧ 0 ≤ f a ∧ (d = 0 → f a = 0) ∧ (d = 1 → f a ≤ 9) ∧ (d = 2 → f a ≤ 99) ∧ (d = 3 → f a ≤ 999) ∧ (∀ i, a < i → f i = 0) ∧ ∀ i, 0 ≤ f i ∧ f i ≤ 9999
theorem rp_inv (c : Int → Int) : ∀ (n : Nat) (a d : Int) (f : Int → Int), rp c n = some (a, d, f) → rp_iv a d f
  | 0, a, d, f, h => by
    unfold rp at h
    cases h
    exact ⟨by omega, by omega, by decide, fun _ => rfl, fun h => by omega, fun h => by omega, fun h => by omega, fun _ _ => rfl, fun _ => ⟨Int.le_refl 0, (by decide : (0 : Int) ≤ 9999)⟩⟩
  | n + 1, a, d, f, h => by
    cases hr : rp c n with
    | none =>
      unfold rp at h
      rw [hr] at h
      cases h
    | some q =>
      obtain ⟨a', d', f'⟩ := q
      have ih := rp_inv c n a' d' f' hr
      obtain ⟨i1, i2, i3, i4, i5, i6, i7, i8, i9⟩ := ih
      by_cases h1 : rp_gr (c n) d' (f' a')
      · rw [rp_g hr h1] at h
        cases h
        obtain ⟨h11, h12⟩ := h1
        have hs : rp_u f' a (10 * f' a + (c n - 48)) a = 10 * f' a + (c n - 48) := if_pos rfl
        have hb := i9 a
        refine ⟨i1, by omega, by rw [hs]; omega, fun q => by omega, fun q => by rw [hs]; omega, fun q => by rw [hs]; omega, fun q => by rw [hs]; omega, fun i hi => ?_, fun i => ?_⟩
        · show (if i = a then _ else f' i) = 0
          rw [if_neg (by omega)]
          exact i8 i hi
        · show 0 ≤ (if i = a then 10 * f' a + (c n - 48) else f' i) ∧ (if i = a then 10 * f' a + (c n - 48) else f' i) ≤ 9999
          have := i9 i
          split <;> omega
      · by_cases h2 : c n = 32 ∧ 0 < d' ∧ a' < 5
        · rw [rp_e hr h2] at h
          cases h
          have hz := i8 (a' + 1) (by omega)
          exact ⟨by omega, by omega, by rw [hz]; decide, fun _ => hz, fun q => by omega, fun q => by omega, fun q => by omega, fun i hi => i8 i (by omega), i9⟩
        · rw [rp_n hr h1 h2] at h
          cases h
/-- what a reader answers -/
def rp_an (c : Int → Int) (n : Int) (v : Int) (g : Int → Int) : Prop := (∃ p : Nat, (p : Int) < n ∧ rp c p ≠ none ∧ rp c (p + 1) = none ∧ v = p) ∨ (∃ a d f, rp c n.toNat = some (a, d, f) ∧ ((¬ (a = 5 ∧ 0 < d) ∧ v = n) ∨ ((a = 5 ∧ 0 < d) ∧ v = -1 ∧ ∀ i, 0 ≤ i → i ≤ 5 → g i = f i)))
def pr_mo_read (M : rk_M) (n : Int) : Prop := (0 ≤ n ∧ n ≤ 40) ∧ ∀ i, 0 ≤ i → i < 40 → 0 ≤ M 42 0 0 i ∧ M 42 0 0 i ≤ 127
def po_mo_read (M : rk_M) (n : Int) (z : rk_Z) (M' : rk_M) : Prop := (∃ v, z = rk_one v ∧ rp_an (fun i => M 42 0 0 i) n v (fun i => M' 43 0 0 i)) ∧ (∀ t o r i, t ≠ 43 → M' t o r i = M t o r i)
def pp_mo_read (as : List rk_V) (M : rk_M) : Prop := as = [rk_r 30 0 0, rk_i (rk_ai as 1)] ∧ pr_mo_read M (rk_ai as 1)
def qq_mo_read (as : List rk_V) (M : rk_M) (z : rk_Z) (M' : rk_M) : Prop := po_mo_read M (rk_ai as 1) z M'
set_option maxHeartbeats 1000000 in
set_option maxRecDepth 20000 in
theorem c_mo_read (l : Launch) : rk_Sp l rk_cs yn_mo_read (.code yn_mo_read prog_5_method_42_code 8 (some .int)) 0 pp_mo_read qq_mo_read 0 := by
  refine rk_mk (kc := kc_mo_read) (ft := ft_mo) (ca := []) (th := []) (stops := [7, 44, 74, 102]) (rt := 1) ck_mo_read ftc_mo (fun _ h => absurd h List.not_mem_nil) (fun _ h => absurd h List.not_mem_nil) (Or.inr (Or.inl ⟨rfl, rfl⟩)) (by decide +kernel) (fun as M h => by rw [h.1]; exact ⟨Nat.le_of_ble_eq_true rfl, rk_nlok rfl⟩) ?_
  intro L as M G hp hrg hG
  obtain ⟨has, hP⟩ := hp
  generalize rk_ai as 1 = n at has hP
  subst has
  obtain ⟨hn, htx⟩ := hP
  have fin : ∀ (v : Int) (M1 : rk_M), (∀ t o r i, t ≠ 43 → M1 t o r i = M t o r i) → rp_an (fun i => M 42 0 0 i) n v (fun i => M1 43 0 0 i) → qq_mo_read [rk_r 30 0 0, rk_i n] M (rk_one v) M1 := fun v M1 h1 h2 => ⟨⟨v, rfl, h2⟩, h1⟩
  have lp : ∀ i : Nat, i ≤ n.toNat → ∀ (M2 : rk_M) (a d : Int) (f : Int → Int) (x5 x6 x7 : rk_V), rp (fun i => M 42 0 0 i) i = some (a, d, f) → (∀ t o r i, t ≠ 43 → M2 t o r i = M t o r i) → (∀ q, 0 ≤ q → q < a → M2 43 0 0 q = f q) → (0 < d → M2 43 0 0 a = f a) → G M2 7 [rk_r 30 0 0, rk_i n, rk_i a, rk_i d, rk_i i, x5, x6, x7] [] 0 := by
    refine rk_loop n.toNat ?_
    intro i hi hnext M2 a d f x5 x6 x7 hrp hF hq hd
    obtain ⟨i1, i2, i3, i4, i5, i6, i7, i8, i9⟩ := rp_inv _ _ _ _ _ hrp
    have ht : ∀ q, M2 42 0 0 q = M 42 0 0 q := fun q => hF _ _ _ _ (by omega)
    have ib := i9 a
    refine hG 40 _ _ _ _ _ rfl ?_
    refine And.intro ?_ ?_
    · intro h
      have hi' : i = n.toNat := by omega
      subst hi'
      refine And.intro ?_ ?_
      · intro h1
        refine And.intro (fin n M2 hF (Or.inr ⟨a, d, f, hrp, Or.inl ⟨by omega, rfl⟩⟩)) (Nat.le_refl _)
      · intro h1
        refine And.intro ?_ ?_
        · intro h2
          refine And.intro (fin n M2 hF (Or.inr ⟨a, d, f, hrp, Or.inl ⟨by omega, rfl⟩⟩)) (Nat.le_refl _)
        · intro h2
          refine And.intro (fin (-1) M2 hF (Or.inr ⟨a, d, f, hrp, Or.inr ⟨⟨h1, h2⟩, rfl, fun q q0 q1 => ?_⟩⟩)) (Nat.le_refl _)
          show M2 43 0 0 q = f q
          by_cases e : q = a
          · subst e; exact hd h2
          · exact hq q q0 (by omega)
    · intro h
      have hti := ht i
      have hbi := htx i (by omega) (by omega)
      have f102 : ∀ (x5 : rk_V) (u v : Int), (u = 1 ∧ rp_gr (M 42 0 0 i) d (f a)) ∨ (u = 0 ∧ ¬ rp_gr (M 42 0 0 i) d (f a)) → (v = 1 ∧ (M 42 0 0 i = 32 ∧ 0 < d ∧ a < 5)) ∨ (v = 0 ∧ ¬ (M 42 0 0 i = 32 ∧ 0 < d ∧ a < 5)) → G M2 102 [rk_r 30 0 0, rk_i n, rk_i a, rk_i d, rk_i i, x5, rk_i u, rk_i v] [] 0 := by
        intro x5 u v hu hv
        have go : ∀ (u' v' : Int), (v' ≠ 0 ∧ (M 42 0 0 i = 32 ∧ 0 < d ∧ a < 5)) ∨ (v' = 0 ∧ rp_gr (M 42 0 0 i) d (f a)) → True := fun _ _ _ => trivial
        have hend : (M 42 0 0 i = 32 ∧ 0 < d ∧ a < 5) → G M2 7 [rk_r 30 0 0, rk_i n, rk_i (a + 1), rk_i 0, rk_i ((i : Int) + 1), x5, rk_i u, rk_i v] [] 0 := by
          intro hc
          refine rk_gto (hnext (by omega) M2 (a + 1) 0 f x5 (rk_i u) (rk_i v) (rp_e hrp hc) hF ?_ (fun q => absurd q (Int.lt_irrefl 0))) rfl rfl rfl
          intro q q0 q1
          by_cases e : q = a
          · subst e; exact hd hc.2.1
          · exact hq q q0 (by omega)
        have hgro : rp_gr (M 42 0 0 i) d (f a) → ∀ x : Int, x = 10 * f a + (M 42 0 0 i - 48) → G (rk_up M2 43 0 0 a x) 7 [rk_r 30 0 0, rk_i n, rk_i a, rk_i (d + 1), rk_i ((i : Int) + 1), x5, rk_i u, rk_i v] [] 0 := by
          intro hc x hx
          refine rk_gto (hnext (by omega) (rk_up M2 43 0 0 a x) a (d + 1) (rp_u f a (10 * f a + (M 42 0 0 i - 48))) x5 (rk_i u) (rk_i v) (rp_g hrp hc) ?_ ?_ ?_) rfl rfl rfl
          · intro t o r q h1
            rw [rk_up_off (by omega)]
            exact hF t o r q h1
          · intro q q0 q1
            rw [rk_up_ne (by omega), hq q q0 q1]
            show _ = (if q = a then _ else f q)
            rw [if_neg (by omega)]
          · intro _
            rw [rk_up_self, hx]
            show _ = (if a = a then _ else f a)
            rw [if_pos rfl]
        refine hG 60 _ _ _ _ _ rfl ?_
        have tail : ∀ P Q : Prop, True := fun _ _ => trivial
        refine And.intro ?_ ?_
        · intro h1
          have hc1 : rp_gr (M 42 0 0 i) d (f a) := by rcases hu with hu | hu; exact hu.2; exact absurd hu.1 h1
          have hcc := hc1
          obtain ⟨hd1, hd2⟩ := hcc
          have hv0 : v = 0 := by omega
          subst hv0
          refine And.intro (fun _ => ?_) (fun q => absurd rfl q)
          refine And.intro ?_ ?_
          · intro h2
            have e43 := hd (by omega)
            refine And.intro (And.intro (by omega) (by show _ < (6 : Int); omega)) ?_
            refine And.intro (And.intro (by omega) (by omega)) ?_
            refine And.intro (And.intro (by omega) (by show _ < (40 : Int); omega)) ?_
            refine And.intro (And.intro (by omega) (by omega)) ?_
            refine And.intro (And.intro (by omega) (by omega)) ?_
            refine And.intro (And.intro (by omega) (by show _ < (6 : Int); omega)) ?_
            refine And.intro (And.intro (by omega) (by omega)) ?_
            refine And.intro (And.intro (by omega) (by omega)) ?_
            refine hgro hc1 _ ?_
            rw [e43, hti]; omega
          · intro h2
            refine And.intro (And.intro (by omega) (by show _ < (40 : Int); omega)) ?_
            refine And.intro (And.intro (by omega) (by omega)) ?_
            refine And.intro (And.intro (by omega) (by omega)) ?_
            refine And.intro (And.intro (by omega) (by show _ < (6 : Int); omega)) ?_
            refine And.intro (And.intro (by omega) (by omega)) ?_
            refine And.intro (And.intro (by omega) (by omega)) ?_
            refine hgro hc1 _ ?_
            have := i4 h2
            rw [hti]; omega
        · intro h1
          refine And.intro ?_ ?_
          · intro h2
            refine And.intro (fun q => absurd q h2) (fun _ => ?_)
            refine And.intro (And.intro (by omega) (by omega)) ?_
            refine And.intro (And.intro (by omega) (by omega)) ?_
            exact hend (by omega)
          · intro h2
            have hc1 : ¬ rp_gr (M 42 0 0 i) d (f a) := by rcases hu with hu | hu; exact absurd (hu.1.symm.trans h1) (by decide); exact hu.2
            refine And.intro (fin i M2 hF (Or.inl ⟨i, by omega, (fun q => (by rw [hrp] at q; cases q)), rp_n hrp hc1 (by omega), rfl⟩)) (Nat.le_refl _)
      have f74 : ∀ (x5 x7 : rk_V) (u : Int), (u = 1 ∧ rp_gr (M 42 0 0 i) d (f a)) ∨ (u = 0 ∧ ¬ rp_gr (M 42 0 0 i) d (f a)) → G M2 74 [rk_r 30 0 0, rk_i n, rk_i a, rk_i d, rk_i i, x5, rk_i u, x7] [] 0 := by
        intro x5 x7 u hu
        refine hG 40 _ _ _ _ _ rfl ?_
        refine And.intro (And.intro (by omega) (by show _ < (40 : Int); omega)) ?_
        rw [hti]
        repeat' (first | refine And.intro ?_ ?_ | intro _)
        all_goals exact f102 _ _ _ hu (by omega)
      have f44 : ∀ (x6 x7 : rk_V) (u : Int), (u = 1 ∧ (48 ≤ M 42 0 0 i ∧ M 42 0 0 i ≤ 57)) ∨ (u = 0 ∧ ¬ (48 ≤ M 42 0 0 i ∧ M 42 0 0 i ≤ 57)) → G M2 44 [rk_r 30 0 0, rk_i n, rk_i a, rk_i d, rk_i i, rk_i u, x6, x7] [] 0 := by
        intro x6 x7 u hu
        refine hG 40 _ _ _ _ _ rfl ?_
        refine And.intro ?_ ?_
        · intro h1
          exact f74 _ _ _ (Or.inr ⟨rfl, fun q => by have := q.1; omega⟩)
        · intro h1
          refine And.intro ?_ ?_
          · intro h2
            exact f74 _ _ _ (Or.inr ⟨rfl, fun q => by have := q.2; omega⟩)
          · intro h2
            refine And.intro ?_ ?_
            · intro h3
              exact f74 _ _ _ (Or.inl ⟨rfl, by omega, by omega⟩)
            · intro h3
              have e43 := hd (by omega)
              refine And.intro (And.intro (by omega) (by show _ < (6 : Int); omega)) ?_
              rw [e43]
              refine And.intro ?_ ?_
              · intro h4
                exact f74 _ _ _ (Or.inr ⟨rfl, fun q => by have := q.2; omega⟩)
              · intro h4
                exact f74 _ _ _ (Or.inl ⟨rfl, by omega, by omega⟩)
      refine And.intro (And.intro (by omega) (by show _ < (40 : Int); omega)) ?_
      rw [hti]
      refine And.intro ?_ ?_
      · intro h1
        exact f44 _ _ _ (by omega)
      · intro h1
        refine And.intro (And.intro (by omega) (by show _ < (40 : Int); omega)) ?_
        rw [hti]
        refine And.intro ?_ ?_
        · intro h2
          exact f44 _ _ _ (by omega)
        · intro h2
          exact f44 _ _ _ (by omega)
  refine hG 10 _ _ _ _ _ rfl ?_
  exact lp 0 (Nat.zero_le _) M 0 0 (fun _ => 0) _ _ _ rfl (fun _ _ _ _ _ => rfl) (fun q q0 q1 => by omega) (fun q => absurd q (Int.lt_irrefl 0))
/-- is what was read the proof of the place that it names -/
def mo_ek (M : rk_M) (s : Int) (f : Int → Int) (n : Nat) : Int := rk_ct (fun w => f (1 + w) ≠ mo_re M s (f 0) w) (fun _ => inferInstance) n
def mo_ck (M : rk_M) (s : Int) (f : Int → Int) : Int := if f 0 < M 30 0 0 1 ∧ rs_com (vw M) s ≠ 0 ∧ vw M 11 s 0 (f 0) ≠ 0 ∧ mo_ek M s f 5 = 0 then 1 else 0
def mo_e1 (M : rk_M) (s : Int) (f : Int → Int) (n : Nat) : Int := if mo_ek M s f n = 0 then 1 else 0
def mo_av (M : rk_M) (s : Int) (c : Int → Int) (n v : Int) : Prop := (∃ p : Nat, (p : Int) < n ∧ rp c p ≠ none ∧ rp c (p + 1) = none ∧ v = -1 - p) ∨ (∃ a d f, rp c n.toNat = some (a, d, f) ∧ ((¬ (a = 5 ∧ 0 < d) ∧ v = -1 - n) ∨ ((a = 5 ∧ 0 < d) ∧ v = mo_ck M s f)))
def pr_mo_check (M : rk_M) (s : Int) : Prop := mi M ∧ (0 ≤ M 30 0 0 14 ∧ M 30 0 0 14 ≤ 40) ∧ ∀ i, 0 ≤ i → i < 40 → 0 ≤ M 42 0 0 i ∧ M 42 0 0 i ≤ 127
def po_mo_check (M : rk_M) (s : Int) (z : rk_Z) (M' : rk_M) : Prop := (¬ (0 ≤ s ∧ s < 3) ∧ z = rk_one 0 ∧ mo_fr M 1 M') ∨ ((0 ≤ s ∧ s < 3) ∧ (∃ v, z = rk_one v ∧ mo_av M s (fun i => M 42 0 0 i) (M 30 0 0 14) v) ∧ (∀ t o r i, t ≠ 40 → t ≠ 41 → t ≠ 43 → ¬ (t = 30 ∧ i = 0) → ¬ (t = 30 ∧ i = 14) → M' t o r i = M t o r i) ∧ M' 30 0 0 0 = 0 ∧ M' 30 0 0 14 = 0)
def pp_mo_check (as : List rk_V) (M : rk_M) : Prop := as = [rk_r 30 0 0, rk_i (rk_ai as 1)] ∧ pr_mo_check M (rk_ai as 1)
def qq_mo_check (as : List rk_V) (M : rk_M) (z : rk_Z) (M' : rk_M) : Prop := po_mo_check M (rk_ai as 1) z M'
set_option maxHeartbeats 1000000 in
set_option maxRecDepth 20000 in
theorem c_mo_check (l : Launch) : rk_Sp l rk_cs yn_mo_check (.code yn_mo_check prog_5_method_43_code 7 (some .int)) 4 pp_mo_check qq_mo_check 0 := by
  refine rk_mk (kc := kc_mo_check) (ft := ft_mo) (ca := [(2 * 70 + 1, (1, pp_mo_isSegment, qq_mo_isSegment, 0)), (2 * 66, (2, pp_mo_refused, qq_mo_refused, 0)), (2 * 151, (2, pp_mo_read, qq_mo_read, 0)), (2 * 76, (2, pp_mo_isSkater, qq_mo_isSkater, 0)), (2 * 118, (2, pp_mo_reckon, qq_mo_reckon, 0)), (2 * 94, (3, pp_mo_starts, qq_mo_starts, 0)), (2 * 121, (4, pp_mo_result, qq_mo_result, 0))]) (th := []) (stops := [13, 88]) (rt := 1) ck_mo_check ftc_mo (List.forall_mem_cons.mpr ⟨rk_ckS (n := 1) (c_mo_isSegment l) ww_mo_isSegment lk_mo_70 (by decide) (by decide) (by decide) (by decide +kernel), List.forall_mem_cons.mpr ⟨rk_ckV (n := 1) (c_mo_refused l) ww_mo_refused lk_mo_66 (by decide) (by decide) (by decide) (by decide +kernel) (fun as M h => ⟨_, _, _, _, h.1, rk_rcv_mo⟩), List.forall_mem_cons.mpr ⟨rk_ckV (n := 1) (c_mo_read l) ww_mo_read lk_mo_151 (by decide) (by decide) (by decide) (by decide +kernel) (fun as M h => ⟨_, _, _, _, h.1, rk_rcv_mo⟩), List.forall_mem_cons.mpr ⟨rk_ckV (n := 1) (c_mo_isSkater l) ww_mo_isSkater lk_mo_76 (by decide) (by decide) (by decide) (by decide +kernel) (fun as M h => ⟨_, _, _, _, h.1, rk_rcv_mo⟩), List.forall_mem_cons.mpr ⟨rk_ckV (n := 1) (c_mo_reckon l) ww_mo_reckon lk_mo_118 (by decide) (by decide) (by decide) (by decide +kernel) (fun as M h => ⟨_, _, _, _, h.1, rk_rcv_mo⟩), List.forall_mem_cons.mpr ⟨rk_ckV (n := 2) (c_mo_starts l) ww_mo_starts lk_mo_94 (by decide) (by decide) (by decide) (by decide +kernel) (fun as M h => ⟨_, _, _, _, h.1, rk_rcv_mo⟩), List.forall_mem_cons.mpr ⟨rk_ckV (n := 3) (c_mo_result l) ww_mo_result lk_mo_121 (by decide) (by decide) (by decide) (by decide +kernel) (fun as M h => ⟨_, _, _, _, h.1, rk_rcv_mo⟩), fun _ h => absurd h List.not_mem_nil⟩⟩⟩⟩⟩⟩⟩) (fun _ h => absurd h List.not_mem_nil) (Or.inr (Or.inl ⟨rfl, rfl⟩)) (by decide +kernel) (fun as M h => by rw [h.1]; exact ⟨Nat.le_of_ble_eq_true rfl, rk_nlok rfl⟩) ?_
  intro L as M G hp hrg hG
  obtain ⟨has, hP⟩ := hp
  generalize rk_ai as 1 = s at has hP
  subst has
  obtain ⟨hmi, hty, htx⟩ := hP
  have hbb := hmi.1
  have f13 : ∀ (v : Int) (x2 x3 x4 x5 x6 : rk_V), (v = 1 ∧ ¬ (0 ≤ s ∧ s < 3)) ∨ (v = 0 ∧ (0 ≤ s ∧ s < 3)) → G M 13 [rk_r 30 0 0, rk_i s, x2, x3, x4, x5, x6] [rk_i v, rk_r 30 0 0] 0 := by
    intro v x2 x3 x4 x5 x6 hw
    refine hG 60 _ _ _ _ _ rfl ?_
    refine And.intro (And.intro rfl (show pr_mo_refused M v from trivial)) (And.intro (Nat.le_refl _) ?_)
    intro z Mz hq
    have hz : z = rk_one (if 0 < v then 1 else 0) := hq.1
    have hM : Mz = rk_up M 30 0 0 0 v := hq.2
    subst z Mz
    clear hq
    refine And.intro ?_ ?_
    · intro h
      have c := rk_b0 h
      rcases hw with ⟨rfl, h1⟩ | ⟨rfl, h1⟩
      · omega
      have e14 : rk_up M 30 0 0 0 0 30 0 0 14 = M 30 0 0 14 := rk_up_ne (by omega)
      have e42 : ∀ i, rk_up (rk_up M 30 0 0 0 0) 30 0 0 14 0 42 0 0 i = M 42 0 0 i := fun i => by rw [rk_up_off (by omega), rk_up_off (by omega)]
      refine And.intro (And.intro rfl (show pr_mo_read (rk_up (rk_up M 30 0 0 0 0) 30 0 0 14 0) (rk_up M 30 0 0 0 0 30 0 0 14) from ⟨by omega, fun i a b => by rw [e42]; exact htx i a b⟩)) (And.intro (Nat.le_refl _) ?_)
      intro z M1 hq
      obtain ⟨⟨v, hz, han⟩, hF⟩ := hq
      subst z
      have han1 : rp_an (fun i => M 42 0 0 i) (M 30 0 0 14) v (fun i => M1 43 0 0 i) := by
        have h2 : rp_an (fun i => rk_up (rk_up M 30 0 0 0 0) 30 0 0 14 0 42 0 0 i) (rk_up M 30 0 0 0 0 30 0 0 14) v (fun i => M1 43 0 0 i) := han
        rw [e14] at h2
        have e : (fun i => rk_up (rk_up M 30 0 0 0 0) 30 0 0 14 0 42 0 0 i) = (fun i => M 42 0 0 i) := funext e42
        rw [e] at h2
        exact h2
      have hF1 : ∀ t o r i, t ≠ 43 → ¬ (t = 30 ∧ i = 0) → ¬ (t = 30 ∧ i = 14) → M1 t o r i = M t o r i := fun t o r i a b c => (hF t o r i a).trans ((rk_up_ne (by omega)).trans (rk_up_ne (by omega)))
      have e0 : M1 30 0 0 0 = 0 := (hF _ _ _ _ (by omega)).trans ((rk_up_ne (by omega)).trans rk_up_self)
      have e140 : M1 30 0 0 14 = 0 := (hF _ _ _ _ (by omega)).trans rk_up_self
      have fin : ∀ (v : Int) (M2 : rk_M), mo_f2 M1 M2 → mo_av M s (fun i => M 42 0 0 i) (M 30 0 0 14) v → qq_mo_check [rk_r 30 0 0, rk_i s] M (rk_one v) M2 := by
        intro v M2 hf hv
        exact Or.inr ⟨h1, ⟨v, rfl, hv⟩, fun t o r i a b c d e => (hf t o r i a b).trans (hF1 t o r i c d e), (hf _ _ _ _ (by omega) (by omega)).trans e0, (hf _ _ _ _ (by omega) (by omega)).trans e140⟩
      have ff : mo_f2 M1 M1 := fun _ _ _ _ _ _ => rfl
      have hx : ∀ t o r q, t < 40 → ¬ (t = 30 ∧ (q = 0 ∨ q = 14 ∨ q = 17)) → M1 t o r q = M t o r q := fun t o r q a b => hF1 t o r q (by omega) (by omega) (by omega)
      have hv1 := vw_congr hx
      have hmi1 := hmi.congr hx
      have e1 : M1 30 0 0 1 = M 30 0 0 1 := hx _ _ _ _ (by omega) (by omega)
      clear han hF
      refine And.intro ?_ ?_
      · intro h2
        rcases han1 with ⟨p, hp, hp1, hp2, hp3⟩ | ⟨a, d, f, hrp, ⟨hn, hv⟩ | ⟨hn, hv, hg⟩⟩
        · omega
        · omega
        obtain ⟨ha, hd⟩ := hn
        subst ha
        obtain ⟨i1, i2, i3, i4, i5, i6, i7, i8, i9⟩ := rp_inv _ _ _ _ _ hrp
        have hg : ∀ i, 0 ≤ i → i ≤ 5 → M1 43 0 0 i = f i := hg
        have g0 := hg 0 (by omega) (by omega)
        have b0 := i9 0
        have fin2 : ∀ (v : Int) (M2 : rk_M), mo_f2 M1 M2 → v = mo_ck M s f → qq_mo_check [rk_r 30 0 0, rk_i s] M (rk_one v) M2 := fun v M2 hf hv => fin v M2 hf (Or.inr ⟨5, d, f, hrp, Or.inr ⟨⟨rfl, hd⟩, hv⟩⟩)
        refine And.intro (And.intro (by omega) (by show _ < (6 : Int); omega)) ?_
        rw [g0]
        refine And.intro (And.intro rfl (show pr_mo_isSkater M1 (f 0) from trivial)) (And.intro (Nat.le_refl _) ?_)
        intro z Mz hq
        have hz : z = rk_one (if 0 ≤ f 0 ∧ f 0 < M1 30 0 0 1 then 1 else 0) := hq.1
        have hM : Mz = M1 := hq.2
        subst z Mz
        clear hq
        refine And.intro ?_ ?_
        · intro h3
          have c3 := rk_b0 h3
          exact And.intro (fin2 0 M1 ff (by unfold mo_ck; rw [if_neg (fun q => by have := q.1; omega)])) (Nat.le_refl _)
        · intro h3
          have c3 := rk_b1 h3
          have hm := hmi1.2 s h1.1 h1.2
          refine And.intro (And.intro rfl (show pr_mo_reckon M1 s from ⟨hm.1, hm.2.1⟩)) (And.intro (Nat.le_refl _) ?_)
          intro z M2 hq
          have hz : z = rk_one (rs_com (vw M) s) := hq.1.trans (by rw [hv1]; rfl)
          have hM := hq.2
          subst z
          clear hq
          have hM2 : mo_rk M1 s M2 := hM
          have hf2 : mo_f2 M1 M2 := hM2.1
          have hx2 : ∀ t o r q, t < 40 → ¬ (t = 30 ∧ (q = 0 ∨ q = 14 ∨ q = 17)) → M2 t o r q = M t o r q := fun t o r q a b => (hf2 t o r q (by omega) (by omega)).trans (hx t o r q a b)
          have hv2 := vw_congr hx2
          have e12 : M2 30 0 0 1 = M 30 0 0 1 := hx2 _ _ _ _ (by omega) (by omega)
          refine And.intro ?_ ?_
          · intro h4
            exact And.intro (fin2 0 M2 hf2 (by unfold mo_ck; rw [if_neg (fun q => q.2.1 h4)])) (Nat.le_refl _)
          · intro h4
            refine And.intro (And.intro rfl (show pr_mo_starts M2 s (f 0) from ⟨by omega, by omega⟩)) (And.intro (Nat.le_refl _) ?_)
            intro z Mz hq
            have hz : z = rk_one (vw M 11 s 0 (f 0)) := hq.1.trans (congrArg rk_one ((mo_st (i := f 0) h1 (by omega)).trans (by rw [hv2])))
            have hM : Mz = M2 := hq.2
            subst z Mz
            clear hq
            refine And.intro ?_ ?_
            · intro h5
              have hpo : mo_po M2 s (f 0) := hM2.po hm.1 (by rw [hv1]; exact h4) c3.1 c3.2 (by rw [hv1]; exact h5)
              have e43 : ∀ i, 0 ≤ i → i ≤ 5 → M2 43 0 0 i = f i := fun i a b => (hf2 _ _ _ _ (by omega) (by omega)).trans (hg i a b)
              have e101 : ∀ n, mo_e1 M s f n = 0 ∨ mo_e1 M s f n = 1 := fun n => by unfold mo_e1; split <;> simp
              have lp : ∀ i : Nat, i ≤ 5 → G M2 88 [rk_r 30 0 0, rk_i s, rk_i (rk_up M 30 0 0 0 0 30 0 0 14), rk_i v, rk_i (f 0), rk_i (mo_e1 M s f i), rk_i i] [] 0 := by
                refine rk_loop 5 ?_
                intro i hi hnext
                have hb := rk_ct_b (fun w => f (1 + w) ≠ mo_re M s (f 0) w) (fun _ => inferInstance) i
                change 0 ≤ mo_ek M s f i ∧ mo_ek M s f i ≤ (i : Int) at hb
                have hmo : mo_ek M s f i ≤ mo_ek M s f (i + 1) := rk_ct_mono _ (by omega)
                refine hG 60 _ _ _ _ _ rfl ?_
                refine And.intro ?_ ?_
                · intro h6
                  have hi' : i = 5 := by omega
                  subst hi'
                  refine And.intro ?_ ?_
                  · intro h7
                    refine And.intro (fin2 0 M2 hf2 ?_) (Nat.le_refl _)
                    unfold mo_ck
                    rw [if_neg]
                    intro q
                    unfold mo_e1 at h7
                    rw [if_pos q.2.2.2] at h7
                    exact absurd h7 (by decide)
                  · intro h7
                    refine And.intro (fin2 1 M2 hf2 ?_) (Nat.le_refl _)
                    have hz : mo_ek M s f 5 = 0 := by
                      unfold mo_e1 at h7
                      split at h7
                      · assumption
                      · exact absurd rfl h7
                    unfold mo_ck
                    rw [if_pos ⟨by omega, h4, h5, hz⟩]
                · intro h6
                  refine And.intro ?_ ?_
                  · intro h7
                    refine And.intro (And.intro (by omega) (by omega)) ?_
                    refine rk_gto (hnext (by omega)) rfl ?_ rfl
                    have hne : mo_ek M s f i ≠ 0 := fun q => by unfold mo_e1 at h7; rw [if_pos q] at h7; exact absurd h7 (by decide)
                    have e : mo_e1 M s f (i + 1) = 0 := by unfold mo_e1; rw [if_neg (by omega)]
                    rw [e]; rfl
                  · intro h7
                    have hz : mo_ek M s f i = 0 := by
                      unfold mo_e1 at h7
                      split at h7
                      · assumption
                      · exact absurd rfl h7
                    have e43i := e43 (1 + i) (by omega) (by omega)
                    refine And.intro (And.intro (by omega) (by omega)) ?_
                    refine And.intro (And.intro (by omega) (by show _ < (6 : Int); omega)) ?_
                    rw [e43i]
                    refine And.intro (And.intro rfl (show pr_mo_result M2 s (f 0) i from ⟨hpo, by omega, by omega⟩)) (And.intro (Nat.le_refl _) ?_)
                    intro z Mz hq
                    have hz : z = rk_one (mo_re M s (f 0) i) := hq.1.trans (congrArg rk_one (show mo_re M2 s (f 0) i = _ by unfold mo_re; rw [hv2]))
                    have hM : Mz = M2 := hq.2
                    subst z Mz
                    clear hq
                    refine And.intro ?_ ?_
                    · intro h8
                      refine And.intro (And.intro (by omega) (by omega)) ?_
                      refine rk_gto (hnext (by omega)) rfl ?_ rfl
                      have e2 : mo_ek M s f (i + 1) = mo_ek M s f i + 1 := rk_ct_t h8
                      have e : mo_e1 M s f (i + 1) = 0 := by unfold mo_e1; rw [if_neg (by omega)]
                      rw [e]; rfl
                    · intro h8
                      refine And.intro (And.intro (by omega) (by omega)) ?_
                      refine rk_gto (hnext (by omega)) rfl ?_ rfl
                      have e2 : mo_ek M s f (i + 1) = mo_ek M s f i := rk_ct_f (fun q => q h8)
                      have e : mo_e1 M s f (i + 1) = 1 := by unfold mo_e1; rw [if_pos (by omega)]
                      rw [e]; rfl
              exact lp 0 (Nat.zero_le _)
            · intro h5
              exact And.intro (fin2 0 M2 hf2 (by unfold mo_ck; rw [if_neg (fun q => q.2.2.1 h5)])) (Nat.le_refl _)
      · intro h2
        have hvb : 0 ≤ v ∧ v ≤ 40 := by
          rcases han1 with ⟨p, hp, hp1, hp2, hp3⟩ | ⟨a, d, f, hrp, ⟨hn, hv⟩ | ⟨hn, hv, hg⟩⟩ <;> omega
        refine And.intro (And.intro (by omega) (by omega)) ?_
        refine And.intro (fin (-1 - v) M1 ff ?_) (Nat.le_refl _)
        rcases han1 with ⟨p, hp, hp1, hp2, hp3⟩ | ⟨a, d, f, hrp, ⟨hn, hv⟩ | ⟨hn, hv, hg⟩⟩
        · exact Or.inl ⟨p, hp, hp1, hp2, by rw [hp3]⟩
        · exact Or.inr ⟨a, d, f, hrp, Or.inl ⟨hn, by rw [hv]⟩⟩
        · omega
    · intro h
      have c := rk_b1 h
      rcases hw with ⟨rfl, h1⟩ | ⟨rfl, h1⟩
      · exact And.intro (Or.inl ⟨h1, rfl, mo_fr_0 M 1⟩) (Nat.le_refl _)
      · omega
  refine hG 40 _ _ _ _ _ rfl ?_
  refine And.intro (And.intro rfl (show pr_mo_isSegment M s from trivial)) (And.intro (Nat.le_refl _) ?_)
  intro z Mz hq
  have hz : z = rk_one (if 0 ≤ s ∧ s < 3 then 1 else 0) := hq.1
  have hM : Mz = M := hq.2
  subst z Mz
  clear hq
  refine And.intro ?_ ?_
  · intro h
    have c := rk_b0 h
    exact f13 _ _ _ _ _ _ (by omega)
  · intro h
    have c := rk_b1 h
    exact f13 _ _ _ _ _ _ (by omega)
end
section
/-! Contracts of the class: refusals, a new event -/
def rk_ah (as : List rk_V) (k : Nat) : Int := match (as[k]? : Option rk_V) with
  | some (.inr (.inl h)) => h.2.1
  | _ => 0
def pr_ri_requireSegment (M : rk_M) (s : Int) : Prop := True
def po_ri_requireSegment (M : rk_M) (s : Int) (z : rk_Z) (M' : rk_M) : Prop := (¬ (0 ≤ s ∧ s < 3) ∧ z = .inr 0 ∧ M' = M) ∨ ((0 ≤ s ∧ s < 3) ∧ z = .inl none ∧ M' = M)
def pp_ri_requireSegment (as : List rk_V) (M : rk_M) : Prop := as = [rk_r 2 0 0, rk_i (rk_ai as 1)] ∧ pr_ri_requireSegment M (rk_ai as 1)
def qq_ri_requireSegment (as : List rk_V) (M : rk_M) (z : rk_Z) (M' : rk_M) : Prop := po_ri_requireSegment M (rk_ai as 1) z M'
set_option maxHeartbeats 1000000 in
set_option maxRecDepth 20000 in
theorem c_ri_requireSegment (l : Launch) (hl : l.stackTraces = false) : rk_Sp l rk_cs yn_ri_requireSegment (.code yn_ri_requireSegment prog_1_method_21_code 2 none) 0 pp_ri_requireSegment qq_ri_requireSegment 1 := by
  refine rk_mk (kc := kc_ri_requireSegment) (ft := ft_ri) (ca := []) (th := [(9, 0)]) (stops := []) (rt := 0) ck_ri_requireSegment ftc_ri (fun _ h => absurd h List.not_mem_nil) (List.forall_mem_cons.mpr ⟨tk_ri_requireSegment_9 l hl, fun _ h => absurd h List.not_mem_nil⟩) (Or.inl ⟨rfl, rfl⟩) (by decide +kernel) (fun as M h => by rw [h.1]; exact ⟨Nat.le_of_ble_eq_true rfl, rk_nlok rfl⟩) ?_
  intro L as M G hp hrg hG
  obtain ⟨has, hP⟩ := hp
  generalize rk_ai as 1 = s at has hP
  subst has
  refine hG 20 _ _ _ _ _ rfl ?_
  refine And.intro ?_ ?_
  · intro h
    exact And.intro (Nat.le_of_ble_eq_true rfl) (And.intro (show po_ri_requireSegment M s (.inr 0) M from Or.inl ⟨by omega, rfl, rfl⟩) (Nat.le_of_ble_eq_true rfl))
  · intro h
    refine And.intro ?_ ?_
    · intro h1
      exact And.intro rfl (And.intro (show po_ri_requireSegment M s (.inl none) M from Or.inr ⟨by omega, rfl, rfl⟩) (Nat.le_of_ble_eq_true rfl))
    · intro h1
      exact And.intro (Nat.le_of_ble_eq_true rfl) (And.intro (show po_ri_requireSegment M s (.inr 0) M from Or.inl ⟨by omega, rfl, rfl⟩) (Nat.le_of_ble_eq_true rfl))
def pr_ri_requireJudge (M : rk_M) (j : Int) : Prop := True
def po_ri_requireJudge (M : rk_M) (j : Int) (z : rk_Z) (M' : rk_M) : Prop := (¬ (0 ≤ j ∧ j < M 2 0 0 5) ∧ z = .inr 0 ∧ M' = M) ∨ ((0 ≤ j ∧ j < M 2 0 0 5) ∧ z = .inl none ∧ M' = M)
def pp_ri_requireJudge (as : List rk_V) (M : rk_M) : Prop := as = [rk_r 2 0 0, rk_i (rk_ai as 1)] ∧ pr_ri_requireJudge M (rk_ai as 1)
def qq_ri_requireJudge (as : List rk_V) (M : rk_M) (z : rk_Z) (M' : rk_M) : Prop := po_ri_requireJudge M (rk_ai as 1) z M'
set_option maxHeartbeats 1000000 in
set_option maxRecDepth 20000 in
theorem c_ri_requireJudge (l : Launch) (hl : l.stackTraces = false) : rk_Sp l rk_cs yn_ri_requireJudge (.code yn_ri_requireJudge prog_1_method_22_code 2 none) 0 pp_ri_requireJudge qq_ri_requireJudge 1 := by
  refine rk_mk (kc := kc_ri_requireJudge) (ft := ft_ri) (ca := []) (th := [(12, 0)]) (stops := []) (rt := 0) ck_ri_requireJudge ftc_ri (fun _ h => absurd h List.not_mem_nil) (List.forall_mem_cons.mpr ⟨tk_ri_requireJudge_12 l hl, fun _ h => absurd h List.not_mem_nil⟩) (Or.inl ⟨rfl, rfl⟩) (by decide +kernel) (fun as M h => by rw [h.1]; exact ⟨Nat.le_of_ble_eq_true rfl, rk_nlok rfl⟩) ?_
  intro L as M G hp hrg hG
  obtain ⟨has, hP⟩ := hp
  generalize rk_ai as 1 = j at has hP
  subst has
  refine hG 20 _ _ _ _ _ rfl ?_
  refine And.intro ?_ ?_
  · intro h
    exact And.intro (Nat.le_of_ble_eq_true rfl) (And.intro (show po_ri_requireJudge M j (.inr 0) M from Or.inl ⟨by omega, rfl, rfl⟩) (Nat.le_of_ble_eq_true rfl))
  · intro h
    refine And.intro ?_ ?_
    · intro h1
      exact And.intro rfl (And.intro (show po_ri_requireJudge M j (.inl none) M from Or.inr ⟨⟨h, h1⟩, rfl, rfl⟩) (Nat.le_of_ble_eq_true rfl))
    · intro h1
      have h1 : M 2 0 0 5 ≤ j := h1
      exact And.intro (Nat.le_of_ble_eq_true rfl) (And.intro (show po_ri_requireJudge M j (.inr 0) M from Or.inl ⟨by omega, rfl, rfl⟩) (Nat.le_of_ble_eq_true rfl))
def pr_ri_requireSkater (M : rk_M) (k : Int) : Prop := True
def po_ri_requireSkater (M : rk_M) (k : Int) (z : rk_Z) (M' : rk_M) : Prop := (¬ (0 ≤ k ∧ k < M 2 0 0 4) ∧ z = .inr 0 ∧ M' = M) ∨ ((0 ≤ k ∧ k < M 2 0 0 4) ∧ z = .inl none ∧ M' = M)
def pp_ri_requireSkater (as : List rk_V) (M : rk_M) : Prop := as = [rk_r 2 0 0, rk_i (rk_ai as 1)] ∧ pr_ri_requireSkater M (rk_ai as 1)
def qq_ri_requireSkater (as : List rk_V) (M : rk_M) (z : rk_Z) (M' : rk_M) : Prop := po_ri_requireSkater M (rk_ai as 1) z M'
set_option maxHeartbeats 1000000 in
set_option maxRecDepth 20000 in
theorem c_ri_requireSkater (l : Launch) (hl : l.stackTraces = false) : rk_Sp l rk_cs yn_ri_requireSkater (.code yn_ri_requireSkater prog_1_method_23_code 2 none) 0 pp_ri_requireSkater qq_ri_requireSkater 1 := by
  refine rk_mk (kc := kc_ri_requireSkater) (ft := ft_ri) (ca := []) (th := [(12, 0)]) (stops := []) (rt := 0) ck_ri_requireSkater ftc_ri (fun _ h => absurd h List.not_mem_nil) (List.forall_mem_cons.mpr ⟨tk_ri_requireSkater_12 l hl, fun _ h => absurd h List.not_mem_nil⟩) (Or.inl ⟨rfl, rfl⟩) (by decide +kernel) (fun as M h => by rw [h.1]; exact ⟨Nat.le_of_ble_eq_true rfl, rk_nlok rfl⟩) ?_
  intro L as M G hp hrg hG
  obtain ⟨has, hP⟩ := hp
  generalize rk_ai as 1 = k at has hP
  subst has
  refine hG 20 _ _ _ _ _ rfl ?_
  refine And.intro ?_ ?_
  · intro h
    exact And.intro (Nat.le_of_ble_eq_true rfl) (And.intro (show po_ri_requireSkater M k (.inr 0) M from Or.inl ⟨by omega, rfl, rfl⟩) (Nat.le_of_ble_eq_true rfl))
  · intro h
    refine And.intro ?_ ?_
    · intro h1
      exact And.intro rfl (And.intro (show po_ri_requireSkater M k (.inl none) M from Or.inr ⟨⟨h, h1⟩, rfl, rfl⟩) (Nat.le_of_ble_eq_true rfl))
    · intro h1
      have h1 : M 2 0 0 4 ≤ k := h1
      exact And.intro (Nat.le_of_ble_eq_true rfl) (And.intro (show po_ri_requireSkater M k (.inr 0) M from Or.inl ⟨by omega, rfl, rfl⟩) (Nat.le_of_ble_eq_true rfl))
def pr_ri_requireNumber (M : rk_M) (v : Int) : Prop := True
def po_ri_requireNumber (M : rk_M) (v : Int) (z : rk_Z) (M' : rk_M) : Prop := (¬ (0 ≤ v ∧ v ≤ 60) ∧ z = .inr 1 ∧ M' = M) ∨ ((0 ≤ v ∧ v ≤ 60) ∧ z = .inl none ∧ M' = M)
def pp_ri_requireNumber (as : List rk_V) (M : rk_M) : Prop := as = [rk_r 2 0 0, rk_i (rk_ai as 1)] ∧ pr_ri_requireNumber M (rk_ai as 1)
def qq_ri_requireNumber (as : List rk_V) (M : rk_M) (z : rk_Z) (M' : rk_M) : Prop := po_ri_requireNumber M (rk_ai as 1) z M'
set_option maxHeartbeats 1000000 in
set_option maxRecDepth 20000 in
theorem c_ri_requireNumber (l : Launch) (hl : l.stackTraces = false) : rk_Sp l rk_cs yn_ri_requireNumber (.code yn_ri_requireNumber prog_1_method_24_code 2 none) 0 pp_ri_requireNumber qq_ri_requireNumber 1 := by
  refine rk_mk (kc := kc_ri_requireNumber) (ft := ft_ri) (ca := []) (th := [(10, 1)]) (stops := []) (rt := 0) ck_ri_requireNumber ftc_ri (fun _ h => absurd h List.not_mem_nil) (List.forall_mem_cons.mpr ⟨tk_ri_requireNumber_10 l hl, fun _ h => absurd h List.not_mem_nil⟩) (Or.inl ⟨rfl, rfl⟩) (by decide +kernel) (fun as M h => by rw [h.1]; exact ⟨Nat.le_of_ble_eq_true rfl, rk_nlok rfl⟩) ?_
  intro L as M G hp hrg hG
  obtain ⟨has, hP⟩ := hp
  generalize rk_ai as 1 = v at has hP
  subst has
  refine hG 20 _ _ _ _ _ rfl ?_
  refine And.intro ?_ ?_
  · intro h
    exact And.intro (Nat.le_of_ble_eq_true rfl) (And.intro (show po_ri_requireNumber M v (.inr 1) M from Or.inl ⟨by omega, rfl, rfl⟩) (Nat.le_of_ble_eq_true rfl))
  · intro h
    refine And.intro ?_ ?_
    · intro h1
      exact And.intro rfl (And.intro (show po_ri_requireNumber M v (.inl none) M from Or.inr ⟨by omega, rfl, rfl⟩) (Nat.le_of_ble_eq_true rfl))
    · intro h1
      exact And.intro (Nat.le_of_ble_eq_true rfl) (And.intro (show po_ri_requireNumber M v (.inr 1) M from Or.inl ⟨by omega, rfl, rfl⟩) (Nat.le_of_ble_eq_true rfl))
def pr_ri_requireOpen (M : rk_M) (s : Int) : Prop := 0 ≤ s ∧ s < 3
def po_ri_requireOpen (M : rk_M) (s : Int) (z : rk_Z) (M' : rk_M) : Prop := (M 10 s 0 2 ≠ 0 ∧ z = .inr 2 ∧ M' = M) ∨ (M 10 s 0 2 = 0 ∧ z = .inl none ∧ M' = M)
def pp_ri_requireOpen (as : List rk_V) (M : rk_M) : Prop := as = [rk_r 2 0 0, rk_i (rk_ai as 1)] ∧ pr_ri_requireOpen M (rk_ai as 1)
def qq_ri_requireOpen (as : List rk_V) (M : rk_M) (z : rk_Z) (M' : rk_M) : Prop := po_ri_requireOpen M (rk_ai as 1) z M'
set_option maxHeartbeats 1000000 in
set_option maxRecDepth 20000 in
theorem c_ri_requireOpen (l : Launch) (hl : l.stackTraces = false) : rk_Sp l rk_cs yn_ri_requireOpen (.code yn_ri_requireOpen prog_1_method_25_code 2 none) 0 pp_ri_requireOpen qq_ri_requireOpen 1 := by
  refine rk_mk (kc := kc_ri_requireOpen) (ft := ft_ri) (ca := []) (th := [(12, 2)]) (stops := []) (rt := 0) ck_ri_requireOpen ftc_ri (fun _ h => absurd h List.not_mem_nil) (List.forall_mem_cons.mpr ⟨tk_ri_requireOpen_12 l hl, fun _ h => absurd h List.not_mem_nil⟩) (Or.inl ⟨rfl, rfl⟩) (by decide +kernel) (fun as M h => by rw [h.1]; exact ⟨Nat.le_of_ble_eq_true rfl, rk_nlok rfl⟩) ?_
  intro L as M G hp hrg hG
  obtain ⟨has, hP⟩ := hp
  generalize rk_ai as 1 = s at has hP
  subst has
  obtain ⟨h0, h1⟩ := hP
  refine hG 20 _ _ _ _ _ rfl ?_
  refine And.intro (And.intro (by omega) (by show _ < (3 : Int); omega)) ?_
  refine And.intro ?_ ?_
  · intro h
    exact And.intro rfl (And.intro (show po_ri_requireOpen M s (.inl none) M from Or.inr ⟨h, rfl, rfl⟩) (Nat.le_of_ble_eq_true rfl))
  · intro h
    exact And.intro (Nat.le_of_ble_eq_true rfl) (And.intro (show po_ri_requireOpen M s (.inr 2) M from Or.inl ⟨h, rfl, rfl⟩) (Nat.le_of_ble_eq_true rfl))
def ri_kf (M : rk_M) (s : Int) : rk_M := rk_up (rk_up M 10 s 0 0 (if s = 0 then 0 else 1)) 10 s 0 1 (if s = 0 then 5 else 10)
def ri_op (M : rk_M) (sk ju : Int) : Nat → rk_M
  | 0 => rk_up (rk_up M 2 0 0 4 sk) 2 0 0 5 ju
  | n + 1 => ri_kf (rs_ro (ri_op M sk ju n) n sk ju) n
def pr_ri_openEvent (M : rk_M) (sk ju : Int) : Prop := True
def po_ri_openEvent (M : rk_M) (sk ju : Int) (z : rk_Z) (M' : rk_M) : Prop := z = .inl none ∧ M' = ri_op M sk ju 3
def pp_ri_openEvent (as : List rk_V) (M : rk_M) : Prop := as = [rk_r 2 0 0, rk_i (rk_ai as 1), rk_i (rk_ai as 2)] ∧ pr_ri_openEvent M (rk_ai as 1) (rk_ai as 2)
def qq_ri_openEvent (as : List rk_V) (M : rk_M) (z : rk_Z) (M' : rk_M) : Prop := po_ri_openEvent M (rk_ai as 1) (rk_ai as 2) z M'
set_option maxHeartbeats 1000000 in
set_option maxRecDepth 20000 in
theorem c_ri_openEvent (l : Launch) : rk_Sp l rk_cs yn_ri_openEvent (.code yn_ri_openEvent prog_1_method_20_code 4 none) 2 pp_ri_openEvent qq_ri_openEvent 0 := by
  refine rk_mk (kc := kc_ri_openEvent) (ft := ft_ri) (ca := [(2 * 191, (3, pp_se_reopen, qq_se_reopen, 0))]) (th := []) (stops := [12]) (rt := 0) ck_ri_openEvent ftc_ri (List.forall_mem_cons.mpr ⟨rk_ckV (n := 2) (c_se_reopen l) ww_se_reopen lk_ri_191 (by decide) (by decide) (by decide) (by decide +kernel) (fun as M h => ⟨_, _, _, _, h.1, rk_rcv_se⟩), fun _ h => absurd h List.not_mem_nil⟩) (fun _ h => absurd h List.not_mem_nil) (Or.inl ⟨rfl, rfl⟩) (by decide +kernel) (fun as M h => by rw [h.1]; exact ⟨Nat.le_of_ble_eq_true rfl, rk_nlok rfl⟩) ?_
  intro L as M G hp hrg hG
  obtain ⟨has, hP⟩ := hp
  generalize rk_ai as 1 = sk at has hP
  generalize rk_ai as 2 = ju at has hP
  subst has
  have lp : ∀ i : Nat, i ≤ 3 → G (ri_op M sk ju i) 12 [rk_r 2 0 0, rk_i sk, rk_i ju, rk_i i] [] 0 := by
    refine rk_loop 3 ?_
    intro i hi hnext
    refine hG 60 _ _ _ _ _ rfl ?_
    refine And.intro ?_ ?_
    · intro h
      have hi' : i = 3 := by omega
      subst hi'
      exact And.intro rfl (And.intro (show po_ri_openEvent M sk ju (.inl none) (ri_op M sk ju 3) from ⟨rfl, rfl⟩) (Nat.le_of_ble_eq_true rfl))
    · intro h
      refine And.intro (And.intro (by omega) (by show _ < (3 : Int); omega)) ?_
      refine And.intro (And.intro rfl (show pr_se_reopen (ri_op M sk ju i) i sk ju from trivial)) (And.intro (Nat.le_of_ble_eq_true rfl) ?_)
      intro z Mz hq
      have hz : z = .inl none := hq.1
      have hM : Mz = rs_ro (ri_op M sk ju i) i sk ju := hq.2
      subst z Mz
      clear hq
      refine And.intro (And.intro (by omega) (by show _ < (3 : Int); omega)) ?_
      refine And.intro ?_ ?_
      · intro h1
        refine And.intro (And.intro (by omega) (by show _ < (3 : Int); omega)) ?_
        refine And.intro ?_ ?_
        · intro _
          refine And.intro (And.intro (by omega) (by omega)) ?_
          refine rk_gto (hnext (by omega)) ?_ rfl rfl
          show _ = ri_kf _ _
          unfold ri_kf
          rw [if_neg h1, if_neg h1]
        · intro h2
          exact absurd h2 h1
      · intro h1
        refine And.intro (And.intro (by omega) (by show _ < (3 : Int); omega)) ?_
        refine And.intro ?_ ?_
        · intro h2
          exact absurd h1 h2
        · intro _
          refine And.intro (And.intro (by omega) (by omega)) ?_
          refine rk_gto (hnext (by omega)) ?_ rfl rfl
          show _ = ri_kf _ _
          unfold ri_kf
          rw [if_pos h1, if_pos h1]
  refine hG 20 _ _ _ _ _ rfl ?_
  exact lp 0 (Nat.zero_le _)
end
section
/-! Contracts of the class: event, segment, mark, deduct, strike -/
/-- the class's invariant -/
def ci (M : rk_M) : Prop := (2 ≤ M 2 0 0 4 ∧ M 2 0 0 4 ≤ 10 ∧ 3 ≤ M 2 0 0 5 ∧ M 2 0 0 5 ≤ 9) ∧ ∀ s, 0 ≤ s → s < 3 → rs_ok M s ∧ M 10 s 0 3 = M 2 0 0 4 ∧ M 10 s 0 4 = M 2 0 0 5 ∧ (M 10 s 0 2 ≠ 0 → rs_com M s ≠ 0) ∧ 1 ≤ M 10 s 0 1 ∧ M 10 s 0 1 ≤ 20
def pr_ri_event (M : rk_M) (sk ju : Int) : Prop := True
def po_ri_event (M : rk_M) (sk ju : Int) (z : rk_Z) (M' : rk_M) : Prop := (¬ (2 ≤ sk ∧ sk ≤ 10 ∧ 3 ≤ ju ∧ ju ≤ 9) ∧ z = .inr 1 ∧ M' = M) ∨ ((2 ≤ sk ∧ sk ≤ 10 ∧ 3 ≤ ju ∧ ju ≤ 9) ∧ z = .inl none ∧ M' = ri_op M sk ju 3)
def pp_ri_event (as : List rk_V) (M : rk_M) : Prop := as = [rk_r 2 0 0, rk_i (rk_ai as 1), rk_i (rk_ai as 2)] ∧ pr_ri_event M (rk_ai as 1) (rk_ai as 2)
def qq_ri_event (as : List rk_V) (M : rk_M) (z : rk_Z) (M' : rk_M) : Prop := po_ri_event M (rk_ai as 1) (rk_ai as 2) z M'
set_option maxHeartbeats 1000000 in
set_option maxRecDepth 20000 in
theorem c_ri_event (l : Launch) (hl : l.stackTraces = false) : rk_Sp l rk_cs yn_ri_event (.code yn_ri_event prog_1_method_2_code 3 none) 3 pp_ri_event qq_ri_event 1 := by
  refine rk_mk (kc := kc_ri_event) (ft := ft_ri) (ca := [(2 * 33, (3, pp_ri_openEvent, qq_ri_openEvent, 0))]) (th := [(11, 1), (32, 1)]) (stops := []) (rt := 0) ck_ri_event ftc_ri (List.forall_mem_cons.mpr ⟨rk_ckV (n := 2) (c_ri_openEvent l) ww_ri_openEvent lk_ri_33 (by decide) (by decide) (by decide) (by decide +kernel) (fun as M h => ⟨_, _, _, _, h.1, rk_rcv_ri⟩), fun _ h => absurd h List.not_mem_nil⟩) (List.forall_mem_cons.mpr ⟨tk_ri_event_11 l hl, List.forall_mem_cons.mpr ⟨tk_ri_event_32 l hl, fun _ h => absurd h List.not_mem_nil⟩⟩) (Or.inl ⟨rfl, rfl⟩) (by decide +kernel) (fun as M h => by rw [h.1]; exact ⟨Nat.le_of_ble_eq_true rfl, rk_nlok rfl⟩) ?_
  intro L as M G hp hrg hG
  obtain ⟨has, hP⟩ := hp
  generalize rk_ai as 1 = sk at has hP
  generalize rk_ai as 2 = ju at has hP
  subst has
  refine hG 40 _ _ _ _ _ rfl ?_
  refine And.intro ?_ ?_
  · intro h
    exact And.intro (Nat.le_of_ble_eq_true rfl) (And.intro (show po_ri_event M sk ju (.inr 1) M from Or.inl ⟨by omega, rfl, rfl⟩) (Nat.le_of_ble_eq_true rfl))
  · intro h
    refine And.intro ?_ ?_
    · intro h1
      refine And.intro ?_ ?_
      · intro h2
        exact And.intro (Nat.le_of_ble_eq_true rfl) (And.intro (show po_ri_event M sk ju (.inr 1) M from Or.inl ⟨by omega, rfl, rfl⟩) (Nat.le_of_ble_eq_true rfl))
      · intro h2
        refine And.intro ?_ ?_
        · intro h3
          refine And.intro (And.intro rfl (show pr_ri_openEvent M sk ju from trivial)) (And.intro (Nat.le_of_ble_eq_true rfl) ?_)
          intro z Mz hq
          have hz : z = .inl none := hq.1
          have hM : Mz = ri_op M sk ju 3 := hq.2
          subst z Mz
          clear hq
          exact And.intro rfl (And.intro (show po_ri_event M sk ju (.inl none) (ri_op M sk ju 3) from Or.inr ⟨by omega, rfl, rfl⟩) (Nat.le_of_ble_eq_true rfl))
        · intro h3
          exact And.intro (Nat.le_of_ble_eq_true rfl) (And.intro (show po_ri_event M sk ju (.inr 1) M from Or.inl ⟨by omega, rfl, rfl⟩) (Nat.le_of_ble_eq_true rfl))
    · intro h1
      exact And.intro (Nat.le_of_ble_eq_true rfl) (And.intro (show po_ri_event M sk ju (.inr 1) M from Or.inl ⟨by omega, rfl, rfl⟩) (Nat.le_of_ble_eq_true rfl))
def pr_ri_segment (M : rk_M) (s kd fa : Int) : Prop := True
def po_ri_segment (M : rk_M) (s kd fa : Int) (z : rk_Z) (M' : rk_M) : Prop := (¬ (0 ≤ s ∧ s < 3) ∧ z = .inr 0 ∧ M' = M) ∨ ((0 ≤ s ∧ s < 3) ∧ ¬ ((kd = 0 ∨ kd = 1) ∧ 1 ≤ fa ∧ fa ≤ 20) ∧ z = .inr 1 ∧ M' = M) ∨ ((0 ≤ s ∧ s < 3) ∧ ((kd = 0 ∨ kd = 1) ∧ 1 ≤ fa ∧ fa ≤ 20) ∧ M 10 s 0 2 ≠ 0 ∧ z = .inr 2 ∧ M' = M) ∨ ((0 ≤ s ∧ s < 3) ∧ ((kd = 0 ∨ kd = 1) ∧ 1 ≤ fa ∧ fa ≤ 20) ∧ M 10 s 0 2 = 0 ∧ z = .inl none ∧ M' = rk_up (rk_up M 10 s 0 0 kd) 10 s 0 1 fa)
def pp_ri_segment (as : List rk_V) (M : rk_M) : Prop := as = [rk_r 2 0 0, rk_i (rk_ai as 1), rk_i (rk_ai as 2), rk_i (rk_ai as 3)] ∧ pr_ri_segment M (rk_ai as 1) (rk_ai as 2) (rk_ai as 3)
def qq_ri_segment (as : List rk_V) (M : rk_M) (z : rk_Z) (M' : rk_M) : Prop := po_ri_segment M (rk_ai as 1) (rk_ai as 2) (rk_ai as 3) z M'
set_option maxHeartbeats 1000000 in
set_option maxRecDepth 20000 in
theorem c_ri_segment (l : Launch) (hl : l.stackTraces = false) : rk_Sp l rk_cs yn_ri_segment (.code yn_ri_segment prog_1_method_3_code 4 none) 1 pp_ri_segment qq_ri_segment 2 := by
  refine rk_mk (kc := kc_ri_segment) (ft := ft_ri) (ca := [(2 * 46, (2, pp_ri_requireSegment, qq_ri_requireSegment, 1)), (2 * 54, (2, pp_ri_requireOpen, qq_ri_requireOpen, 1))]) (th := [(14, 1), (35, 1)]) (stops := [24]) (rt := 0) ck_ri_segment ftc_ri (List.forall_mem_cons.mpr ⟨rk_ckV (n := 1) (c_ri_requireSegment l hl) ww_ri_requireSegment lk_ri_46 (by decide) (by decide) (by decide) (by decide +kernel) (fun as M h => ⟨_, _, _, _, h.1, rk_rcv_ri⟩), List.forall_mem_cons.mpr ⟨rk_ckV (n := 1) (c_ri_requireOpen l hl) ww_ri_requireOpen lk_ri_54 (by decide) (by decide) (by decide) (by decide +kernel) (fun as M h => ⟨_, _, _, _, h.1, rk_rcv_ri⟩), fun _ h => absurd h List.not_mem_nil⟩⟩) (List.forall_mem_cons.mpr ⟨tk_ri_segment_14 l hl, List.forall_mem_cons.mpr ⟨tk_ri_segment_35 l hl, fun _ h => absurd h List.not_mem_nil⟩⟩) (Or.inl ⟨rfl, rfl⟩) (by decide +kernel) (fun as M h => by rw [h.1]; exact ⟨Nat.le_of_ble_eq_true rfl, rk_nlok rfl⟩) ?_
  intro L as M G hp hrg hG
  obtain ⟨has, hP⟩ := hp
  generalize rk_ai as 1 = s at has hP
  generalize rk_ai as 2 = kd at has hP
  generalize rk_ai as 3 = fa at has hP
  subst has
  refine hG 20 _ _ _ _ _ rfl ?_
  refine And.intro (And.intro rfl (show pr_ri_requireSegment M s from trivial)) (And.intro (Nat.le_of_ble_eq_true rfl) ?_)
  intro z Mz hq
  have hq : po_ri_requireSegment M s z Mz := hq
  rcases hq with ⟨h0, hz, hM⟩ | ⟨h0, hz, hM⟩
  · subst z Mz
    exact And.intro (show po_ri_segment M s kd fa (.inr 0) M from Or.inl ⟨h0, rfl, rfl⟩) (Nat.le_of_ble_eq_true rfl)
  subst z Mz
  have f24 : (kd = 0 ∨ kd = 1) → G M 24 [rk_r 2 0 0, rk_i s, rk_i kd, rk_i fa] [] 1 := by
    intro hk
    refine hG 40 _ _ _ _ _ rfl ?_
    refine And.intro ?_ ?_
    · intro h
      exact And.intro (Nat.le_of_ble_eq_true rfl) (And.intro (show po_ri_segment M s kd fa (.inr 1) M from Or.inr (Or.inl ⟨h0, by omega, rfl, rfl⟩)) (Nat.le_of_ble_eq_true rfl))
    · intro h
      refine And.intro ?_ ?_
      · intro h1
        refine And.intro (And.intro rfl (show pr_ri_requireOpen M s from h0)) (And.intro (Nat.le_of_ble_eq_true rfl) ?_)
        intro z Mz hq
        have hq : po_ri_requireOpen M s z Mz := hq
        rcases hq with ⟨h2, hz, hM⟩ | ⟨h2, hz, hM⟩
        · subst z Mz
          exact And.intro (show po_ri_segment M s kd fa (.inr 2) M from Or.inr (Or.inr (Or.inl ⟨h0, by omega, h2, rfl, rfl⟩))) (Nat.le_of_ble_eq_true rfl)
        subst z Mz
        refine And.intro (And.intro (by omega) (by show _ < (3 : Int); omega)) ?_
        refine And.intro (And.intro (by omega) (by show _ < (3 : Int); omega)) ?_
        exact And.intro rfl (And.intro (show po_ri_segment M s kd fa (.inl none) (rk_up (rk_up M 10 s 0 0 kd) 10 s 0 1 fa) from Or.inr (Or.inr (Or.inr ⟨h0, by omega, h2, rfl, rfl⟩))) (Nat.le_of_ble_eq_true rfl))
      · intro h1
        exact And.intro (Nat.le_of_ble_eq_true rfl) (And.intro (show po_ri_segment M s kd fa (.inr 1) M from Or.inr (Or.inl ⟨h0, by omega, rfl, rfl⟩)) (Nat.le_of_ble_eq_true rfl))
  refine And.intro ?_ ?_
  · intro h
    exact f24 (Or.inl h)
  · intro h
    refine And.intro ?_ ?_
    · intro h1
      exact f24 (Or.inr h1)
    · intro h1
      exact And.intro (Nat.le_of_ble_eq_true rfl) (And.intro (show po_ri_segment M s kd fa (.inr 1) M from Or.inr (Or.inl ⟨h0, by omega, rfl, rfl⟩)) (Nat.le_of_ble_eq_true rfl))
def pr_ri_mark (M : rk_M) (s j k f g : Int) : Prop := M 2 0 0 4 ≤ 10 ∧ M 2 0 0 5 ≤ 9
def po_ri_mark (M : rk_M) (s j k f g : Int) (z : rk_Z) (M' : rk_M) : Prop := (¬ ((0 ≤ s ∧ s < 3) ∧ (0 ≤ j ∧ j < M 2 0 0 5) ∧ 0 ≤ k ∧ k < M 2 0 0 4) ∧ z = .inr 0 ∧ M' = M) ∨ (((0 ≤ s ∧ s < 3) ∧ (0 ≤ j ∧ j < M 2 0 0 5) ∧ 0 ≤ k ∧ k < M 2 0 0 4) ∧ ¬ ((0 ≤ f ∧ f ≤ 60) ∧ 0 ≤ g ∧ g ≤ 60) ∧ z = .inr 1 ∧ M' = M) ∨ (((0 ≤ s ∧ s < 3) ∧ (0 ≤ j ∧ j < M 2 0 0 5) ∧ 0 ≤ k ∧ k < M 2 0 0 4) ∧ ((0 ≤ f ∧ f ≤ 60) ∧ 0 ≤ g ∧ g ≤ 60) ∧ M 10 s 0 2 ≠ 0 ∧ z = .inr 2 ∧ M' = M) ∨ (((0 ≤ s ∧ s < 3) ∧ (0 ≤ j ∧ j < M 2 0 0 5) ∧ 0 ≤ k ∧ k < M 2 0 0 4) ∧ ((0 ≤ f ∧ f ≤ 60) ∧ 0 ≤ g ∧ g ≤ 60) ∧ M 10 s 0 2 = 0 ∧ z = .inl none ∧ M' = rk_up (rk_up M 14 s j k f) 16 s j k g)
def pp_ri_mark (as : List rk_V) (M : rk_M) : Prop := as = [rk_r 2 0 0, rk_i (rk_ai as 1), rk_i (rk_ai as 2), rk_i (rk_ai as 3), rk_i (rk_ai as 4), rk_i (rk_ai as 5)] ∧ pr_ri_mark M (rk_ai as 1) (rk_ai as 2) (rk_ai as 3) (rk_ai as 4) (rk_ai as 5)
def qq_ri_mark (as : List rk_V) (M : rk_M) (z : rk_Z) (M' : rk_M) : Prop := po_ri_mark M (rk_ai as 1) (rk_ai as 2) (rk_ai as 3) (rk_ai as 4) (rk_ai as 5) z M'
set_option maxHeartbeats 1000000 in
set_option maxRecDepth 20000 in
theorem c_ri_mark (l : Launch) (hl : l.stackTraces = false) : rk_Sp l rk_cs yn_ri_mark (.code yn_ri_mark prog_1_method_4_code 6 none) 1 pp_ri_mark qq_ri_mark 6 := by
  refine rk_mk (kc := kc_ri_mark) (ft := ft_ri) (ca := [(2 * 46, (2, pp_ri_requireSegment, qq_ri_requireSegment, 1)), (2 * 64, (2, pp_ri_requireJudge, qq_ri_requireJudge, 1)), (2 * 67, (2, pp_ri_requireSkater, qq_ri_requireSkater, 1)), (2 * 70, (2, pp_ri_requireNumber, qq_ri_requireNumber, 1)), (2 * 54, (2, pp_ri_requireOpen, qq_ri_requireOpen, 1)), (2 * 73, (5, pp_se_setMark, qq_se_setMark, 0))]) (th := []) (stops := []) (rt := 0) ck_ri_mark ftc_ri (List.forall_mem_cons.mpr ⟨rk_ckV (n := 1) (c_ri_requireSegment l hl) ww_ri_requireSegment lk_ri_46 (by decide) (by decide) (by decide) (by decide +kernel) (fun as M h => ⟨_, _, _, _, h.1, rk_rcv_ri⟩), List.forall_mem_cons.mpr ⟨rk_ckV (n := 1) (c_ri_requireJudge l hl) ww_ri_requireJudge lk_ri_64 (by decide) (by decide) (by decide) (by decide +kernel) (fun as M h => ⟨_, _, _, _, h.1, rk_rcv_ri⟩), List.forall_mem_cons.mpr ⟨rk_ckV (n := 1) (c_ri_requireSkater l hl) ww_ri_requireSkater lk_ri_67 (by decide) (by decide) (by decide) (by decide +kernel) (fun as M h => ⟨_, _, _, _, h.1, rk_rcv_ri⟩), List.forall_mem_cons.mpr ⟨rk_ckV (n := 1) (c_ri_requireNumber l hl) ww_ri_requireNumber lk_ri_70 (by decide) (by decide) (by decide) (by decide +kernel) (fun as M h => ⟨_, _, _, _, h.1, rk_rcv_ri⟩), List.forall_mem_cons.mpr ⟨rk_ckV (n := 1) (c_ri_requireOpen l hl) ww_ri_requireOpen lk_ri_54 (by decide) (by decide) (by decide) (by decide +kernel) (fun as M h => ⟨_, _, _, _, h.1, rk_rcv_ri⟩), List.forall_mem_cons.mpr ⟨rk_ckV (n := 4) (c_se_setMark l) ww_se_setMark lk_ri_73 (by decide) (by decide) (by decide) (by decide +kernel) (fun as M h => ⟨_, _, _, _, h.1, rk_rcv_se⟩), fun _ h => absurd h List.not_mem_nil⟩⟩⟩⟩⟩⟩) (fun _ h => absurd h List.not_mem_nil) (Or.inl ⟨rfl, rfl⟩) (by decide +kernel) (fun as M h => by rw [h.1]; exact ⟨Nat.le_of_ble_eq_true rfl, rk_nlok rfl⟩) ?_
  intro L as M G hp hrg hG
  obtain ⟨has, hP⟩ := hp
  generalize rk_ai as 1 = s at has hP
  generalize rk_ai as 2 = j at has hP
  generalize rk_ai as 3 = k at has hP
  generalize rk_ai as 4 = f at has hP
  generalize rk_ai as 5 = g at has hP
  subst has
  obtain ⟨p1, p2⟩ := hP
  refine hG 40 _ _ _ _ _ rfl ?_
  refine And.intro (And.intro rfl (show pr_ri_requireSegment M s from trivial)) (And.intro (Nat.le_of_ble_eq_true rfl) ?_)
  intro z Mz hq
  have hq : po_ri_requireSegment M s z Mz := hq
  rcases hq with ⟨h0, hz, hM⟩ | ⟨h0, hz, hM⟩
  · subst z Mz
    exact And.intro (show po_ri_mark M s j k f g (.inr 0) M from Or.inl ⟨by omega, rfl, rfl⟩) (Nat.le_of_ble_eq_true rfl)
  subst z Mz
  refine And.intro (And.intro rfl (show pr_ri_requireJudge M j from trivial)) (And.intro (Nat.le_of_ble_eq_true rfl) ?_)
  intro z Mz hq
  have hq : po_ri_requireJudge M j z Mz := hq
  rcases hq with ⟨h1, hz, hM⟩ | ⟨h1, hz, hM⟩
  · subst z Mz
    exact And.intro (show po_ri_mark M s j k f g (.inr 0) M from Or.inl ⟨by omega, rfl, rfl⟩) (Nat.le_of_ble_eq_true rfl)
  subst z Mz
  refine And.intro (And.intro rfl (show pr_ri_requireSkater M k from trivial)) (And.intro (Nat.le_of_ble_eq_true rfl) ?_)
  intro z Mz hq
  have hq : po_ri_requireSkater M k z Mz := hq
  rcases hq with ⟨h2, hz, hM⟩ | ⟨h2, hz, hM⟩
  · subst z Mz
    exact And.intro (show po_ri_mark M s j k f g (.inr 0) M from Or.inl ⟨by omega, rfl, rfl⟩) (Nat.le_of_ble_eq_true rfl)
  subst z Mz
  refine And.intro (And.intro rfl (show pr_ri_requireNumber M f from trivial)) (And.intro (Nat.le_of_ble_eq_true rfl) ?_)
  intro z Mz hq
  have hq : po_ri_requireNumber M f z Mz := hq
  rcases hq with ⟨h3, hz, hM⟩ | ⟨h3, hz, hM⟩
  · subst z Mz
    exact And.intro (show po_ri_mark M s j k f g (.inr 1) M from Or.inr (Or.inl ⟨⟨h0, h1, h2⟩, by omega, rfl, rfl⟩)) (Nat.le_of_ble_eq_true rfl)
  subst z Mz
  refine And.intro (And.intro rfl (show pr_ri_requireNumber M g from trivial)) (And.intro (Nat.le_of_ble_eq_true rfl) ?_)
  intro z Mz hq
  have hq : po_ri_requireNumber M g z Mz := hq
  rcases hq with ⟨h4, hz, hM⟩ | ⟨h4, hz, hM⟩
  · subst z Mz
    exact And.intro (show po_ri_mark M s j k f g (.inr 1) M from Or.inr (Or.inl ⟨⟨h0, h1, h2⟩, by omega, rfl, rfl⟩)) (Nat.le_of_ble_eq_true rfl)
  subst z Mz
  refine And.intro (And.intro rfl (show pr_ri_requireOpen M s from h0)) (And.intro (Nat.le_of_ble_eq_true rfl) ?_)
  intro z Mz hq
  have hq : po_ri_requireOpen M s z Mz := hq
  rcases hq with ⟨h5, hz, hM⟩ | ⟨h5, hz, hM⟩
  · subst z Mz
    exact And.intro (show po_ri_mark M s j k f g (.inr 2) M from Or.inr (Or.inr (Or.inl ⟨⟨h0, h1, h2⟩, ⟨h3, h4⟩, h5, rfl, rfl⟩))) (Nat.le_of_ble_eq_true rfl)
  subst z Mz
  refine And.intro (And.intro (by omega) (by show _ < (3 : Int); omega)) ?_
  refine And.intro (And.intro rfl (show pr_se_setMark M s j k f g from ⟨by omega, by omega, by omega, by omega⟩)) (And.intro (Nat.le_of_ble_eq_true rfl) ?_)
  intro z Mz hq
  have hz : z = .inl none := hq.1
  have hM : Mz = rk_up (rk_up M 14 s j k f) 16 s j k g := hq.2
  subst z Mz
  clear hq
  exact And.intro rfl (And.intro (show po_ri_mark M s j k f g (.inl none) (rk_up (rk_up M 14 s j k f) 16 s j k g) from Or.inr (Or.inr (Or.inr ⟨⟨h0, h1, h2⟩, ⟨h3, h4⟩, h5, rfl, rfl⟩))) (Nat.le_of_ble_eq_true rfl))
def pr_ri_deduct (M : rk_M) (s k w t : Int) : Prop := M 2 0 0 4 ≤ 10
def po_ri_deduct (M : rk_M) (s k w t : Int) (z : rk_Z) (M' : rk_M) : Prop := (¬ ((0 ≤ s ∧ s < 3) ∧ (0 ≤ k ∧ k < M 2 0 0 4) ∧ (w = 0 ∨ w = 1)) ∧ z = .inr 0 ∧ M' = M) ∨ (((0 ≤ s ∧ s < 3) ∧ (0 ≤ k ∧ k < M 2 0 0 4) ∧ (w = 0 ∨ w = 1)) ∧ ¬ (0 ≤ t ∧ t ≤ 60) ∧ z = .inr 1 ∧ M' = M) ∨ (((0 ≤ s ∧ s < 3) ∧ (0 ≤ k ∧ k < M 2 0 0 4) ∧ (w = 0 ∨ w = 1)) ∧ (0 ≤ t ∧ t ≤ 60) ∧ M 10 s 0 2 ≠ 0 ∧ z = .inr 2 ∧ M' = M) ∨ (((0 ≤ s ∧ s < 3) ∧ (0 ≤ k ∧ k < M 2 0 0 4) ∧ (w = 0 ∨ w = 1)) ∧ (0 ≤ t ∧ t ≤ 60) ∧ M 10 s 0 2 = 0 ∧ z = rk_one (M 18 s w k) ∧ M' = rk_up M 18 s w k t)
def pp_ri_deduct (as : List rk_V) (M : rk_M) : Prop := as = [rk_r 2 0 0, rk_i (rk_ai as 1), rk_i (rk_ai as 2), rk_i (rk_ai as 3), rk_i (rk_ai as 4)] ∧ pr_ri_deduct M (rk_ai as 1) (rk_ai as 2) (rk_ai as 3) (rk_ai as 4)
def qq_ri_deduct (as : List rk_V) (M : rk_M) (z : rk_Z) (M' : rk_M) : Prop := po_ri_deduct M (rk_ai as 1) (rk_ai as 2) (rk_ai as 3) (rk_ai as 4) z M'
set_option maxHeartbeats 1000000 in
set_option maxRecDepth 20000 in
theorem c_ri_deduct (l : Launch) (hl : l.stackTraces = false) : rk_Sp l rk_cs yn_ri_deduct (.code yn_ri_deduct prog_1_method_5_code 5 (some .int)) 1 pp_ri_deduct qq_ri_deduct 4 := by
  refine rk_mk (kc := kc_ri_deduct) (ft := ft_ri) (ca := [(2 * 46, (2, pp_ri_requireSegment, qq_ri_requireSegment, 1)), (2 * 67, (2, pp_ri_requireSkater, qq_ri_requireSkater, 1)), (2 * 70, (2, pp_ri_requireNumber, qq_ri_requireNumber, 1)), (2 * 54, (2, pp_ri_requireOpen, qq_ri_requireOpen, 1)), (2 * 82, (4, pp_se_replaceDeduction, qq_se_replaceDeduction, 0))]) (th := [(19, 0)]) (stops := [29]) (rt := 1) ck_ri_deduct ftc_ri (List.forall_mem_cons.mpr ⟨rk_ckV (n := 1) (c_ri_requireSegment l hl) ww_ri_requireSegment lk_ri_46 (by decide) (by decide) (by decide) (by decide +kernel) (fun as M h => ⟨_, _, _, _, h.1, rk_rcv_ri⟩), List.forall_mem_cons.mpr ⟨rk_ckV (n := 1) (c_ri_requireSkater l hl) ww_ri_requireSkater lk_ri_67 (by decide) (by decide) (by decide) (by decide +kernel) (fun as M h => ⟨_, _, _, _, h.1, rk_rcv_ri⟩), List.forall_mem_cons.mpr ⟨rk_ckV (n := 1) (c_ri_requireNumber l hl) ww_ri_requireNumber lk_ri_70 (by decide) (by decide) (by decide) (by decide +kernel) (fun as M h => ⟨_, _, _, _, h.1, rk_rcv_ri⟩), List.forall_mem_cons.mpr ⟨rk_ckV (n := 1) (c_ri_requireOpen l hl) ww_ri_requireOpen lk_ri_54 (by decide) (by decide) (by decide) (by decide +kernel) (fun as M h => ⟨_, _, _, _, h.1, rk_rcv_ri⟩), List.forall_mem_cons.mpr ⟨rk_ckV (n := 3) (c_se_replaceDeduction l) ww_se_replaceDeduction lk_ri_82 (by decide) (by decide) (by decide) (by decide +kernel) (fun as M h => ⟨_, _, _, _, h.1, rk_rcv_se⟩), fun _ h => absurd h List.not_mem_nil⟩⟩⟩⟩⟩) (List.forall_mem_cons.mpr ⟨tk_ri_deduct_19 l hl, fun _ h => absurd h List.not_mem_nil⟩) (Or.inr (Or.inl ⟨rfl, rfl⟩)) (by decide +kernel) (fun as M h => by rw [h.1]; exact ⟨Nat.le_of_ble_eq_true rfl, rk_nlok rfl⟩) ?_
  intro L as M G hp hrg hG
  obtain ⟨has, hP⟩ := hp
  generalize rk_ai as 1 = s at has hP
  generalize rk_ai as 2 = k at has hP
  generalize rk_ai as 3 = w at has hP
  generalize rk_ai as 4 = t at has hP
  subst has
  have p1 : M 2 0 0 4 ≤ 10 := hP
  refine hG 20 _ _ _ _ _ rfl ?_
  refine And.intro (And.intro rfl (show pr_ri_requireSegment M s from trivial)) (And.intro (Nat.le_of_ble_eq_true rfl) ?_)
  intro z Mz hq
  have hq : po_ri_requireSegment M s z Mz := hq
  rcases hq with ⟨h0, hz, hM⟩ | ⟨h0, hz, hM⟩
  · subst z Mz
    exact And.intro (show po_ri_deduct M s k w t (.inr 0) M from Or.inl ⟨by omega, rfl, rfl⟩) (Nat.le_of_ble_eq_true rfl)
  subst z Mz
  refine And.intro (And.intro rfl (show pr_ri_requireSkater M k from trivial)) (And.intro (Nat.le_of_ble_eq_true rfl) ?_)
  intro z Mz hq
  have hq : po_ri_requireSkater M k z Mz := hq
  rcases hq with ⟨h1, hz, hM⟩ | ⟨h1, hz, hM⟩
  · subst z Mz
    exact And.intro (show po_ri_deduct M s k w t (.inr 0) M from Or.inl ⟨by omega, rfl, rfl⟩) (Nat.le_of_ble_eq_true rfl)
  subst z Mz
  have f29 : (w = 0 ∨ w = 1) → G M 29 [rk_r 2 0 0, rk_i s, rk_i k, rk_i w, rk_i t] [] 2 := by
    intro hw
    refine hG 40 _ _ _ _ _ rfl ?_
    refine And.intro (And.intro rfl (show pr_ri_requireNumber M t from trivial)) (And.intro (Nat.le_of_ble_eq_true rfl) ?_)
    intro z Mz hq
    have hq : po_ri_requireNumber M t z Mz := hq
    rcases hq with ⟨h2, hz, hM⟩ | ⟨h2, hz, hM⟩
    · subst z Mz
      exact And.intro (show po_ri_deduct M s k w t (.inr 1) M from Or.inr (Or.inl ⟨⟨h0, h1, hw⟩, h2, rfl, rfl⟩)) (Nat.le_of_ble_eq_true rfl)
    subst z Mz
    refine And.intro (And.intro rfl (show pr_ri_requireOpen M s from h0)) (And.intro (Nat.le_of_ble_eq_true rfl) ?_)
    intro z Mz hq
    have hq : po_ri_requireOpen M s z Mz := hq
    rcases hq with ⟨h3, hz, hM⟩ | ⟨h3, hz, hM⟩
    · subst z Mz
      exact And.intro (show po_ri_deduct M s k w t (.inr 2) M from Or.inr (Or.inr (Or.inl ⟨⟨h0, h1, hw⟩, h2, h3, rfl, rfl⟩))) (Nat.le_of_ble_eq_true rfl)
    subst z Mz
    refine And.intro (And.intro (by omega) (by show _ < (3 : Int); omega)) ?_
    refine And.intro (And.intro rfl (show pr_se_replaceDeduction M s w k t from ⟨by omega, by omega, by omega, by omega⟩)) (And.intro (Nat.le_of_ble_eq_true rfl) ?_)
    intro z Mz hq
    have hz : z = rk_one (M 18 s w k) := hq.1
    have hM : Mz = rk_up M 18 s w k t := hq.2
    subst z Mz
    clear hq
    exact And.intro (show po_ri_deduct M s k w t (rk_one (M 18 s w k)) (rk_up M 18 s w k t) from Or.inr (Or.inr (Or.inr ⟨⟨h0, h1, hw⟩, h2, h3, rfl, rfl⟩))) (Nat.le_of_ble_eq_true rfl)
  refine And.intro ?_ ?_
  · intro h
    exact f29 (Or.inl h)
  · intro h
    refine And.intro ?_ ?_
    · intro h2
      exact f29 (Or.inr h2)
    · intro h2
      exact And.intro (Nat.le_of_ble_eq_true rfl) (And.intro (show po_ri_deduct M s k w t (.inr 0) M from Or.inl ⟨by omega, rfl, rfl⟩) (Nat.le_of_ble_eq_true rfl))
def pr_ri_strike (M : rk_M) (s j b : Int) : Prop := (b = 0 ∨ b = 1) ∧ ci M
def po_ri_strike (M : rk_M) (s j b : Int) (z : rk_Z) (M' : rk_M) : Prop := (¬ ((0 ≤ s ∧ s < 3) ∧ 0 ≤ j ∧ j < M 2 0 0 5) ∧ z = .inr 0 ∧ M' = M) ∨ (((0 ≤ s ∧ s < 3) ∧ 0 ≤ j ∧ j < M 2 0 0 5) ∧ (M 10 s 0 2 ≠ 0 ∨ (b ≠ 0 ∧ M 12 s 0 j = 0 ∧ rs_pan M s (M 10 s 0 4).toNat = 3)) ∧ z = .inr 2 ∧ M' = M) ∨ (((0 ≤ s ∧ s < 3) ∧ 0 ≤ j ∧ j < M 2 0 0 5) ∧ ¬ (M 10 s 0 2 ≠ 0 ∨ (b ≠ 0 ∧ M 12 s 0 j = 0 ∧ rs_pan M s (M 10 s 0 4).toNat = 3)) ∧ z = rk_one (rs_pan (rk_up M 12 s 0 j b) s (M 10 s 0 4).toNat) ∧ M' = rk_up M 12 s 0 j b)
def pp_ri_strike (as : List rk_V) (M : rk_M) : Prop := as = [rk_r 2 0 0, rk_i (rk_ai as 1), rk_i (rk_ai as 2), rk_i (rk_ai as 3)] ∧ pr_ri_strike M (rk_ai as 1) (rk_ai as 2) (rk_ai as 3)
def qq_ri_strike (as : List rk_V) (M : rk_M) (z : rk_Z) (M' : rk_M) : Prop := po_ri_strike M (rk_ai as 1) (rk_ai as 2) (rk_ai as 3) z M'
set_option maxHeartbeats 1000000 in
set_option maxRecDepth 20000 in
theorem c_ri_strike (l : Launch) (hl : l.stackTraces = false) : rk_Sp l rk_cs yn_ri_strike (.code yn_ri_strike prog_1_method_6_code 5 (some .int)) 1 pp_ri_strike qq_ri_strike 4 := by
  refine rk_mk (kc := kc_ri_strike) (ft := ft_ri) (ca := [(2 * 46, (2, pp_ri_requireSegment, qq_ri_requireSegment, 1)), (2 * 64, (2, pp_ri_requireJudge, qq_ri_requireJudge, 1)), (2 * 54, (2, pp_ri_requireOpen, qq_ri_requireOpen, 1)), (2 * 90, (1, pp_se_panelSize, qq_se_panelSize, 0))]) (th := [(46, 2)]) (stops := [56]) (rt := 1) ck_ri_strike ftc_ri (List.forall_mem_cons.mpr ⟨rk_ckV (n := 1) (c_ri_requireSegment l hl) ww_ri_requireSegment lk_ri_46 (by decide) (by decide) (by decide) (by decide +kernel) (fun as M h => ⟨_, _, _, _, h.1, rk_rcv_ri⟩), List.forall_mem_cons.mpr ⟨rk_ckV (n := 1) (c_ri_requireJudge l hl) ww_ri_requireJudge lk_ri_64 (by decide) (by decide) (by decide) (by decide +kernel) (fun as M h => ⟨_, _, _, _, h.1, rk_rcv_ri⟩), List.forall_mem_cons.mpr ⟨rk_ckV (n := 1) (c_ri_requireOpen l hl) ww_ri_requireOpen lk_ri_54 (by decide) (by decide) (by decide) (by decide +kernel) (fun as M h => ⟨_, _, _, _, h.1, rk_rcv_ri⟩), List.forall_mem_cons.mpr ⟨rk_ckV (n := 0) (c_se_panelSize l) ww_se_panelSize lk_ri_90 (by decide) (by decide) (by decide) (by decide +kernel) (fun as M h => ⟨_, _, _, _, h.1, rk_rcv_se⟩), fun _ h => absurd h List.not_mem_nil⟩⟩⟩⟩) (List.forall_mem_cons.mpr ⟨tk_ri_strike_46 l hl, fun _ h => absurd h List.not_mem_nil⟩) (Or.inr (Or.inl ⟨rfl, rfl⟩)) (by decide +kernel) (fun as M h => by rw [h.1]; exact ⟨Nat.le_of_ble_eq_true rfl, rk_nlok rfl⟩) ?_
  intro L as M G hp hrg hG
  obtain ⟨has, hP⟩ := hp
  generalize rk_ai as 1 = s at has hP
  generalize rk_ai as 2 = j at has hP
  generalize rk_ai as 3 = b at has hP
  subst has
  obtain ⟨hb, ⟨c1, c2, c3, c4⟩, hs⟩ := hP
  refine hG 40 _ _ _ _ _ rfl ?_
  refine And.intro (And.intro rfl (show pr_ri_requireSegment M s from trivial)) (And.intro (Nat.le_of_ble_eq_true rfl) ?_)
  intro z Mz hq
  have hq : po_ri_requireSegment M s z Mz := hq
  rcases hq with ⟨h0, hz, hM⟩ | ⟨h0, hz, hM⟩
  · subst z Mz
    exact And.intro (show po_ri_strike M s j b (.inr 0) M from Or.inl ⟨by omega, rfl, rfl⟩) (Nat.le_of_ble_eq_true rfl)
  subst z Mz
  refine And.intro (And.intro rfl (show pr_ri_requireJudge M j from trivial)) (And.intro (Nat.le_of_ble_eq_true rfl) ?_)
  intro z Mz hq
  have hq : po_ri_requireJudge M j z Mz := hq
  rcases hq with ⟨h1, hz, hM⟩ | ⟨h1, hz, hM⟩
  · subst z Mz
    exact And.intro (show po_ri_strike M s j b (.inr 0) M from Or.inl ⟨by omega, rfl, rfl⟩) (Nat.le_of_ble_eq_true rfl)
  subst z Mz
  refine And.intro (And.intro rfl (show pr_ri_requireOpen M s from h0)) (And.intro (Nat.le_of_ble_eq_true rfl) ?_)
  intro z Mz hq
  have hq : po_ri_requireOpen M s z Mz := hq
  rcases hq with ⟨h2, hz, hM⟩ | ⟨h2, hz, hM⟩
  · subst z Mz
    exact And.intro (show po_ri_strike M s j b (.inr 2) M from Or.inr (Or.inl ⟨⟨h0, h1⟩, Or.inl h2, rfl, rfl⟩)) (Nat.le_of_ble_eq_true rfl)
  subst z Mz
  have hk := (hs s h0.1 h0.2).2.2.1
  have f56 : ¬ (b ≠ 0 ∧ M 12 s 0 j = 0 ∧ rs_pan M s (M 10 s 0 4).toNat = 3) → G M 56 [rk_r 2 0 0, rk_i s, rk_i j, rk_i b, rk_r 10 s 0] [] 3 := by
    intro hn
    refine hG 40 _ _ _ _ _ rfl ?_
    refine And.intro (And.intro (by omega) (by show _ < (9 : Int); omega)) ?_
    refine And.intro hb ?_
    have e : rk_up M 12 s 0 j b 10 s 0 4 = M 10 s 0 4 := rk_up_off (by omega)
    refine And.intro (And.intro rfl (show pr_se_panelSize (rk_up M 12 s 0 j b) s from ⟨by rw [e]; omega, by rw [e]; omega⟩)) (And.intro (Nat.le_of_ble_eq_true rfl) ?_)
    intro z Mz hq
    have hz : z = rk_one (rs_pan (rk_up M 12 s 0 j b) s (M 10 s 0 4).toNat) := hq.1.trans (by rw [← e]; rfl)
    have hM : Mz = rk_up M 12 s 0 j b := hq.2
    subst z Mz
    clear hq
    exact And.intro (show po_ri_strike M s j b (rk_one (rs_pan (rk_up M 12 s 0 j b) s (M 10 s 0 4).toNat)) (rk_up M 12 s 0 j b) from Or.inr (Or.inr ⟨⟨h0, h1⟩, fun q => q.elim (fun q => q h2) hn, rfl, rfl⟩)) (Nat.le_of_ble_eq_true rfl)
  refine And.intro (And.intro (by omega) (by show _ < (3 : Int); omega)) ?_
  refine And.intro ?_ ?_
  · intro h
    exact f56 (fun q => q.1 h)
  · intro h
    refine And.intro (And.intro (by omega) (by show _ < (9 : Int); omega)) ?_
    refine And.intro ?_ ?_
    · intro h3
      exact f56 (fun q => h3 q.2.1)
    · intro h3
      refine And.intro (And.intro rfl (show pr_se_panelSize M s from ⟨by omega, by omega⟩)) (And.intro (Nat.le_of_ble_eq_true rfl) ?_)
      intro z Mz hq
      have hz : z = rk_one (rs_pan M s (M 10 s 0 4).toNat) := hq.1
      have hM : Mz = M := hq.2
      subst z Mz
      clear hq
      refine And.intro ?_ ?_
      · intro h4
        exact f56 (fun q => h4 q.2.2)
      · intro h4
        exact And.intro (Nat.le_of_ble_eq_true rfl) (And.intro (show po_ri_strike M s j b (.inr 2) M from Or.inr (Or.inl ⟨⟨h0, h1⟩, Or.inr ⟨h, h3, h4⟩, rfl, rfl⟩)) (Nat.le_of_ble_eq_true rfl))
end
section
/-! Contracts of the class: withdraw, ordinal, placing, step, needed, publish -/
def ri_ch (M : rk_M) (k s : Int) (n : Nat) : Int := rk_ct (fun i => M 10 i 0 2 ≠ 0 ∧ M 11 i 0 k ≠ (if i < s then 1 else 0)) (fun _ => inferInstance) n
def pr_ri_changesPublishedStarters (M : rk_M) (k s : Int) : Prop := 0 ≤ k ∧ k < 10
def po_ri_changesPublishedStarters (M : rk_M) (k s : Int) (z : rk_Z) (M' : rk_M) : Prop := z = rk_one (if ri_ch M k s 3 = 0 then 0 else 1) ∧ M' = M
def pp_ri_changesPublishedStarters (as : List rk_V) (M : rk_M) : Prop := as = [rk_r 2 0 0, rk_i (rk_ai as 1), rk_i (rk_ai as 2)] ∧ pr_ri_changesPublishedStarters M (rk_ai as 1) (rk_ai as 2)
def qq_ri_changesPublishedStarters (as : List rk_V) (M : rk_M) (z : rk_Z) (M' : rk_M) : Prop := po_ri_changesPublishedStarters M (rk_ai as 1) (rk_ai as 2) z M'
set_option maxHeartbeats 1000000 in
set_option maxRecDepth 20000 in
theorem c_ri_changesPublishedStarters (l : Launch) : rk_Sp l rk_cs yn_ri_changesPublishedStarters (.code yn_ri_changesPublishedStarters prog_1_method_26_code 4 (some .boolean)) 0 pp_ri_changesPublishedStarters qq_ri_changesPublishedStarters 0 := by
  refine rk_mk (kc := kc_ri_changesPublishedStarters) (ft := ft_ri) (ca := []) (th := []) (stops := [2, 45]) (rt := 2) ck_ri_changesPublishedStarters ftc_ri (fun _ h => absurd h List.not_mem_nil) (fun _ h => absurd h List.not_mem_nil) (Or.inr (Or.inr (Or.inl ⟨rfl, rfl⟩))) (by decide +kernel) (fun as M h => by rw [h.1]; exact ⟨Nat.le_of_ble_eq_true rfl, rk_nlok rfl⟩) ?_
  intro L as M G hp hrg hG
  obtain ⟨has, hP⟩ := hp
  generalize rk_ai as 1 = k at has hP
  generalize rk_ai as 2 = s at has hP
  subst has
  obtain ⟨p0, p1⟩ := hP
  have lp : ∀ i : Nat, i ≤ 3 → ri_ch M k s i = 0 → G M 2 [rk_r 2 0 0, rk_i k, rk_i s, rk_i i] [] 0 := by
    refine rk_loop 3 ?_
    intro i hi hnext hz0
    refine hG 60 _ _ _ _ _ rfl ?_
    refine And.intro ?_ ?_
    · intro h
      have hi' : i = 3 := by omega
      subst hi'
      exact And.intro (Or.inl rfl) (And.intro (show po_ri_changesPublishedStarters M k s (rk_one 0) M from ⟨by rw [if_pos hz0], rfl⟩) (Nat.le_of_ble_eq_true rfl))
    · intro h
      have f45 : ¬ (M 10 i 0 2 ≠ 0 ∧ M 11 i 0 k ≠ (if (i : Int) < s then 1 else 0)) → G M 45 [rk_r 2 0 0, rk_i k, rk_i s, rk_i i] [] 0 := by
        intro hn
        refine hG 20 _ _ _ _ _ rfl ?_
        refine And.intro (And.intro (by omega) (by omega)) ?_
        exact rk_gto (hnext (by omega) ((rk_ct_f hn).trans hz0)) rfl rfl rfl
      have ft : (M 10 i 0 2 ≠ 0 ∧ M 11 i 0 k ≠ (if (i : Int) < s then 1 else 0)) → ri_ch M k s 3 ≠ 0 := by
        intro hc
        have e : ri_ch M k s (i + 1) = ri_ch M k s i + 1 := rk_ct_t hc
        have hmo : ri_ch M k s (i + 1) ≤ ri_ch M k s 3 := rk_ct_mono _ (by omega)
        omega
      refine And.intro (And.intro (by omega) (by show _ < (3 : Int); omega)) ?_
      refine And.intro ?_ ?_
      · intro h1
        exact f45 (fun q => q.1 h1)
      · intro h1
        refine And.intro (And.intro (by omega) (by show _ < (3 : Int); omega)) ?_
        refine And.intro (And.intro (by omega) (by show _ < (10 : Int); omega)) ?_
        refine And.intro ?_ ?_
        · intro h2
          refine And.intro ?_ ?_
          · intro h3
            exact f45 (fun q => q.2 (by rw [if_neg (by omega)]; exact h3))
          · intro h3
            exact And.intro (Or.inr rfl) (And.intro (show po_ri_changesPublishedStarters M k s (rk_one 1) M from ⟨by rw [if_neg (ft ⟨h1, by rw [if_neg (by omega)]; exact h3⟩)], rfl⟩) (Nat.le_of_ble_eq_true rfl))
        · intro h2
          refine And.intro ?_ ?_
          · intro h3
            exact f45 (fun q => q.2 (by rw [if_pos h2]; exact h3))
          · intro h3
            exact And.intro (Or.inr rfl) (And.intro (show po_ri_changesPublishedStarters M k s (rk_one 1) M from ⟨by rw [if_neg (ft ⟨h1, by rw [if_pos h2]; exact h3⟩)], rfl⟩) (Nat.le_of_ble_eq_true rfl))
  refine hG 10 _ _ _ _ _ rfl ?_
  exact lp 0 (Nat.zero_le _) rfl
def ri_fs (M : rk_M) (k v : Int) : Prop := (0 ≤ v ∧ v ≤ 3) ∧ (∀ q, 0 ≤ q → q < v → M 11 q 0 k ≠ 0) ∧ (v < 3 → M 11 v 0 k = 0)
def pr_ri_firstSegmentWithout (M : rk_M) (k : Int) : Prop := 0 ≤ k ∧ k < 10
def po_ri_firstSegmentWithout (M : rk_M) (k : Int) (z : rk_Z) (M' : rk_M) : Prop := (∃ v, z = rk_one v ∧ ri_fs M k v) ∧ M' = M
def pp_ri_firstSegmentWithout (as : List rk_V) (M : rk_M) : Prop := as = [rk_r 2 0 0, rk_i (rk_ai as 1)] ∧ pr_ri_firstSegmentWithout M (rk_ai as 1)
def qq_ri_firstSegmentWithout (as : List rk_V) (M : rk_M) (z : rk_Z) (M' : rk_M) : Prop := po_ri_firstSegmentWithout M (rk_ai as 1) z M'
set_option maxHeartbeats 1000000 in
set_option maxRecDepth 20000 in
theorem c_ri_firstSegmentWithout (l : Launch) : rk_Sp l rk_cs yn_ri_firstSegmentWithout (.code yn_ri_firstSegmentWithout prog_1_method_27_code 3 (some .int)) 0 pp_ri_firstSegmentWithout qq_ri_firstSegmentWithout 0 := by
  refine rk_mk (kc := kc_ri_firstSegmentWithout) (ft := ft_ri) (ca := []) (th := []) (stops := [2]) (rt := 1) ck_ri_firstSegmentWithout ftc_ri (fun _ h => absurd h List.not_mem_nil) (fun _ h => absurd h List.not_mem_nil) (Or.inr (Or.inl ⟨rfl, rfl⟩)) (by decide +kernel) (fun as M h => by rw [h.1]; exact ⟨Nat.le_of_ble_eq_true rfl, rk_nlok rfl⟩) ?_
  intro L as M G hp hrg hG
  obtain ⟨has, hP⟩ := hp
  generalize rk_ai as 1 = k at has hP
  subst has
  obtain ⟨p0, p1⟩ := hP
  have lp : ∀ i : Nat, i ≤ 3 → (∀ q, 0 ≤ q → q < (i : Int) → M 11 q 0 k ≠ 0) → G M 2 [rk_r 2 0 0, rk_i k, rk_i i] [] 0 := by
    refine rk_loop 3 ?_
    intro i hi hnext hq0
    refine hG 60 _ _ _ _ _ rfl ?_
    refine And.intro ?_ ?_
    · intro h
      exact And.intro (show po_ri_firstSegmentWithout M k (rk_one i) M from ⟨⟨i, rfl, by omega, hq0, fun q => by omega⟩, rfl⟩) (Nat.le_of_ble_eq_true rfl)
    · intro h
      refine And.intro (And.intro (by omega) (by show _ < (3 : Int); omega)) ?_
      refine And.intro (And.intro (by omega) (by show _ < (10 : Int); omega)) ?_
      refine And.intro ?_ ?_
      · intro h1
        exact And.intro (show po_ri_firstSegmentWithout M k (rk_one i) M from ⟨⟨i, rfl, by omega, hq0, fun _ => h1⟩, rfl⟩) (Nat.le_of_ble_eq_true rfl)
      · intro h1
        refine And.intro (And.intro (by omega) (by omega)) ?_
        refine rk_gto (hnext (by omega) ?_) rfl rfl rfl
        intro q a b
        by_cases e : q = i
        · subst e; exact h1
        · exact hq0 q a (by omega)
  refine hG 10 _ _ _ _ _ rfl ?_
  exact lp 0 (Nat.zero_le _) (fun q a b => absurd b (by omega))
def ri_wd (M : rk_M) (k s : Int) : Nat → rk_M
  | 0 => M
  | n + 1 => rk_up (ri_wd M k s n) 11 n 0 k (if (n : Int) < s then 1 else 0)
def pr_ri_withdraw (M : rk_M) (k s : Int) : Prop := M 2 0 0 4 ≤ 10
def po_ri_withdraw (M : rk_M) (k s : Int) (z : rk_Z) (M' : rk_M) : Prop := (¬ (0 ≤ k ∧ k < M 2 0 0 4) ∧ z = .inr 0 ∧ M' = M) ∨ ((0 ≤ k ∧ k < M 2 0 0 4) ∧ ¬ (0 ≤ s ∧ s ≤ 3) ∧ z = .inr 1 ∧ M' = M) ∨ ((0 ≤ k ∧ k < M 2 0 0 4) ∧ (0 ≤ s ∧ s ≤ 3) ∧ ri_ch M k s 3 ≠ 0 ∧ z = .inr 2 ∧ M' = M) ∨ ((0 ≤ k ∧ k < M 2 0 0 4) ∧ (0 ≤ s ∧ s ≤ 3) ∧ ri_ch M k s 3 = 0 ∧ (∃ v, z = rk_one v ∧ ri_fs M k v) ∧ M' = ri_wd M k s 3)
def pp_ri_withdraw (as : List rk_V) (M : rk_M) : Prop := as = [rk_r 2 0 0, rk_i (rk_ai as 1), rk_i (rk_ai as 2)] ∧ pr_ri_withdraw M (rk_ai as 1) (rk_ai as 2)
def qq_ri_withdraw (as : List rk_V) (M : rk_M) (z : rk_Z) (M' : rk_M) : Prop := po_ri_withdraw M (rk_ai as 1) (rk_ai as 2) z M'
set_option maxHeartbeats 1000000 in
set_option maxRecDepth 20000 in
theorem c_ri_withdraw (l : Launch) (hl : l.stackTraces = false) : rk_Sp l rk_cs yn_ri_withdraw (.code yn_ri_withdraw prog_1_method_7_code 5 (some .int)) 1 pp_ri_withdraw qq_ri_withdraw 2 := by
  refine rk_mk (kc := kc_ri_withdraw) (ft := ft_ri) (ca := [(2 * 67, (2, pp_ri_requireSkater, qq_ri_requireSkater, 1)), (2 * 101, (3, pp_ri_changesPublishedStarters, qq_ri_changesPublishedStarters, 0)), (2 * 107, (2, pp_ri_firstSegmentWithout, qq_ri_firstSegmentWithout, 0))]) (th := [(14, 1), (33, 2)]) (stops := [52]) (rt := 1) ck_ri_withdraw ftc_ri (List.forall_mem_cons.mpr ⟨rk_ckV (n := 1) (c_ri_requireSkater l hl) ww_ri_requireSkater lk_ri_67 (by decide) (by decide) (by decide) (by decide +kernel) (fun as M h => ⟨_, _, _, _, h.1, rk_rcv_ri⟩), List.forall_mem_cons.mpr ⟨rk_ckV (n := 2) (c_ri_changesPublishedStarters l) ww_ri_changesPublishedStarters lk_ri_101 (by decide) (by decide) (by decide) (by decide +kernel) (fun as M h => ⟨_, _, _, _, h.1, rk_rcv_ri⟩), List.forall_mem_cons.mpr ⟨rk_ckV (n := 1) (c_ri_firstSegmentWithout l) ww_ri_firstSegmentWithout lk_ri_107 (by decide) (by decide) (by decide) (by decide +kernel) (fun as M h => ⟨_, _, _, _, h.1, rk_rcv_ri⟩), fun _ h => absurd h List.not_mem_nil⟩⟩⟩) (List.forall_mem_cons.mpr ⟨tk_ri_withdraw_14 l hl, List.forall_mem_cons.mpr ⟨tk_ri_withdraw_33 l hl, fun _ h => absurd h List.not_mem_nil⟩⟩) (Or.inr (Or.inl ⟨rfl, rfl⟩)) (by decide +kernel) (fun as M h => by rw [h.1]; exact ⟨Nat.le_of_ble_eq_true rfl, rk_nlok rfl⟩) ?_
  intro L as M G hp hrg hG
  obtain ⟨has, hP⟩ := hp
  generalize rk_ai as 1 = k at has hP
  generalize rk_ai as 2 = s at has hP
  subst has
  have p1 : M 2 0 0 4 ≤ 10 := hP
  refine hG 40 _ _ _ _ _ rfl ?_
  refine And.intro (And.intro rfl (show pr_ri_requireSkater M k from trivial)) (And.intro (Nat.le_of_ble_eq_true rfl) ?_)
  intro z Mz hq
  have hq : po_ri_requireSkater M k z Mz := hq
  rcases hq with ⟨h0, hz, hM⟩ | ⟨h0, hz, hM⟩
  · subst z Mz
    exact And.intro (show po_ri_withdraw M k s (.inr 0) M from Or.inl ⟨h0, rfl, rfl⟩) (Nat.le_of_ble_eq_true rfl)
  subst z Mz
  refine And.intro ?_ ?_
  · intro h
    exact And.intro (Nat.le_of_ble_eq_true rfl) (And.intro (show po_ri_withdraw M k s (.inr 1) M from Or.inr (Or.inl ⟨h0, by omega, rfl, rfl⟩)) (Nat.le_of_ble_eq_true rfl))
  · intro h
    refine And.intro ?_ ?_
    · intro h1
      refine And.intro (And.intro rfl (show pr_ri_changesPublishedStarters M k s from ⟨by omega, by omega⟩)) (And.intro (Nat.le_of_ble_eq_true rfl) ?_)
      intro z Mz hq
      have hz : z = rk_one (if ri_ch M k s 3 = 0 then 0 else 1) := hq.1
      have hM : Mz = M := hq.2
      subst z Mz
      clear hq
      refine And.intro ?_ ?_
      · intro h2
        have hc : ri_ch M k s 3 = 0 := by
          by_cases e : ri_ch M k s 3 = 0
          · exact e
          · rw [if_neg e] at h2
            exact absurd h2 (by decide)
        refine And.intro (And.intro rfl (show pr_ri_firstSegmentWithout M k from ⟨by omega, by omega⟩)) (And.intro (Nat.le_of_ble_eq_true rfl) ?_)
        intro z Mz hq
        have hq : po_ri_firstSegmentWithout M k z Mz := hq
        obtain ⟨⟨v, hz, hv⟩, hM⟩ := hq
        subst z Mz
        have lp : ∀ i : Nat, i ≤ 3 → G (ri_wd M k s i) 52 [rk_r 2 0 0, rk_i k, rk_i s, rk_i v, rk_i i] [] 1 := by
          refine rk_loop 3 ?_
          intro i hi hnext
          refine hG 60 _ _ _ _ _ rfl ?_
          refine And.intro ?_ ?_
          · intro h3
            have hi' : i = 3 := by omega
            subst hi'
            exact And.intro (show po_ri_withdraw M k s (rk_one v) (ri_wd M k s 3) from Or.inr (Or.inr (Or.inr ⟨h0, by omega, hc, ⟨v, rfl, hv⟩, rfl⟩))) (Nat.le_of_ble_eq_true rfl)
          · intro h3
            refine And.intro (And.intro (by omega) (by show _ < (3 : Int); omega)) ?_
            refine And.intro ?_ ?_
            · intro h4
              refine And.intro (And.intro (by omega) (by show _ < (10 : Int); omega)) ?_
              refine And.intro (Or.inl rfl) ?_
              refine And.intro (And.intro (by omega) (by omega)) ?_
              refine rk_gto (hnext (by omega)) ?_ rfl rfl
              show _ = rk_up _ _ _ _ _ _
              rw [if_neg (by omega)]
            · intro h4
              refine And.intro (And.intro (by omega) (by show _ < (10 : Int); omega)) ?_
              refine And.intro (Or.inr rfl) ?_
              refine And.intro (And.intro (by omega) (by omega)) ?_
              refine rk_gto (hnext (by omega)) ?_ rfl rfl
              show _ = rk_up _ _ _ _ _ _
              rw [if_pos h4]
        exact lp 0 (Nat.zero_le _)
      · intro h2
        have hc : ri_ch M k s 3 ≠ 0 := by
          intro e
          rw [if_pos e] at h2
          exact absurd rfl h2
        exact And.intro (Nat.le_of_ble_eq_true rfl) (And.intro (show po_ri_withdraw M k s (.inr 2) M from Or.inr (Or.inr (Or.inl ⟨h0, by omega, hc, rfl, rfl⟩))) (Nat.le_of_ble_eq_true rfl))
    · intro h1
      exact And.intro (Nat.le_of_ble_eq_true rfl) (And.intro (show po_ri_withdraw M k s (.inr 1) M from Or.inr (Or.inl ⟨h0, by omega, rfl, rfl⟩)) (Nat.le_of_ble_eq_true rfl))
def pr_ri_ordinal (M : rk_M) (s j k : Int) : Prop := ci M
def po_ri_ordinal (M : rk_M) (s j k : Int) (z : rk_Z) (M' : rk_M) : Prop := (¬ ((0 ≤ s ∧ s < 3) ∧ (0 ≤ j ∧ j < M 2 0 0 5) ∧ 0 ≤ k ∧ k < M 2 0 0 4) ∧ z = .inr 0 ∧ M' = M) ∨ (((0 ≤ s ∧ s < 3) ∧ (0 ≤ j ∧ j < M 2 0 0 5) ∧ 0 ≤ k ∧ k < M 2 0 0 4) ∧ z = rk_one (if rs_bad M s j (M 2 0 0 4).toNat = 0 ∧ M 11 s 0 k ≠ 0 then rs_od M s j k else -1) ∧ rs_ag M M' s)
def pp_ri_ordinal (as : List rk_V) (M : rk_M) : Prop := as = [rk_r 2 0 0, rk_i (rk_ai as 1), rk_i (rk_ai as 2), rk_i (rk_ai as 3)] ∧ pr_ri_ordinal M (rk_ai as 1) (rk_ai as 2) (rk_ai as 3)
def qq_ri_ordinal (as : List rk_V) (M : rk_M) (z : rk_Z) (M' : rk_M) : Prop := po_ri_ordinal M (rk_ai as 1) (rk_ai as 2) (rk_ai as 3) z M'
set_option maxHeartbeats 1000000 in
set_option maxRecDepth 20000 in
theorem c_ri_ordinal (l : Launch) (hl : l.stackTraces = false) : rk_Sp l rk_cs yn_ri_ordinal (.code yn_ri_ordinal prog_1_method_8_code 4 (some .int)) 4 pp_ri_ordinal qq_ri_ordinal 3 := by
  refine rk_mk (kc := kc_ri_ordinal) (ft := ft_ri) (ca := [(2 * 46, (2, pp_ri_requireSegment, qq_ri_requireSegment, 1)), (2 * 64, (2, pp_ri_requireJudge, qq_ri_requireJudge, 1)), (2 * 67, (2, pp_ri_requireSkater, qq_ri_requireSkater, 1)), (2 * 114, (3, pp_se_ordinalBy, qq_se_ordinalBy, 0))]) (th := []) (stops := []) (rt := 1) ck_ri_ordinal ftc_ri (List.forall_mem_cons.mpr ⟨rk_ckV (n := 1) (c_ri_requireSegment l hl) ww_ri_requireSegment lk_ri_46 (by decide) (by decide) (by decide) (by decide +kernel) (fun as M h => ⟨_, _, _, _, h.1, rk_rcv_ri⟩), List.forall_mem_cons.mpr ⟨rk_ckV (n := 1) (c_ri_requireJudge l hl) ww_ri_requireJudge lk_ri_64 (by decide) (by decide) (by decide) (by decide +kernel) (fun as M h => ⟨_, _, _, _, h.1, rk_rcv_ri⟩), List.forall_mem_cons.mpr ⟨rk_ckV (n := 1) (c_ri_requireSkater l hl) ww_ri_requireSkater lk_ri_67 (by decide) (by decide) (by decide) (by decide +kernel) (fun as M h => ⟨_, _, _, _, h.1, rk_rcv_ri⟩), List.forall_mem_cons.mpr ⟨rk_ckV (n := 2) (c_se_ordinalBy l) ww_se_ordinalBy lk_ri_114 (by decide) (by decide) (by decide) (by decide +kernel) (fun as M h => ⟨_, _, _, _, h.1, rk_rcv_se⟩), fun _ h => absurd h List.not_mem_nil⟩⟩⟩⟩) (fun _ h => absurd h List.not_mem_nil) (Or.inr (Or.inl ⟨rfl, rfl⟩)) (by decide +kernel) (fun as M h => by rw [h.1]; exact ⟨Nat.le_of_ble_eq_true rfl, rk_nlok rfl⟩) ?_
  intro L as M G hp hrg hG
  obtain ⟨has, hP⟩ := hp
  generalize rk_ai as 1 = s at has hP
  generalize rk_ai as 2 = j at has hP
  generalize rk_ai as 3 = k at has hP
  subst has
  obtain ⟨⟨c1, c2, c3, c4⟩, hs⟩ := hP
  refine hG 40 _ _ _ _ _ rfl ?_
  refine And.intro (And.intro rfl (show pr_ri_requireSegment M s from trivial)) (And.intro (Nat.le_of_ble_eq_true rfl) ?_)
  intro z Mz hq
  have hq : po_ri_requireSegment M s z Mz := hq
  rcases hq with ⟨h0, hz, hM⟩ | ⟨h0, hz, hM⟩
  · subst z Mz
    exact And.intro (show po_ri_ordinal M s j k (.inr 0) M from Or.inl ⟨by omega, rfl, rfl⟩) (Nat.le_of_ble_eq_true rfl)
  subst z Mz
  refine And.intro (And.intro rfl (show pr_ri_requireJudge M j from trivial)) (And.intro (Nat.le_of_ble_eq_true rfl) ?_)
  intro z Mz hq
  have hq : po_ri_requireJudge M j z Mz := hq
  rcases hq with ⟨h1, hz, hM⟩ | ⟨h1, hz, hM⟩
  · subst z Mz
    exact And.intro (show po_ri_ordinal M s j k (.inr 0) M from Or.inl ⟨by omega, rfl, rfl⟩) (Nat.le_of_ble_eq_true rfl)
  subst z Mz
  refine And.intro (And.intro rfl (show pr_ri_requireSkater M k from trivial)) (And.intro (Nat.le_of_ble_eq_true rfl) ?_)
  intro z Mz hq
  have hq : po_ri_requireSkater M k z Mz := hq
  rcases hq with ⟨h2, hz, hM⟩ | ⟨h2, hz, hM⟩
  · subst z Mz
    exact And.intro (show po_ri_ordinal M s j k (.inr 0) M from Or.inl ⟨by omega, rfl, rfl⟩) (Nat.le_of_ble_eq_true rfl)
  subst z Mz
  obtain ⟨hok, e3, e4, -⟩ := hs s h0.1 h0.2
  refine And.intro (And.intro (by omega) (by show _ < (3 : Int); omega)) ?_
  refine And.intro (And.intro rfl (show pr_se_ordinalBy M s j k from ⟨by omega, by omega, by omega, by omega, hok⟩)) (And.intro (Nat.le_of_ble_eq_true rfl) ?_)
  intro z Mz hq
  have hq : po_se_ordinalBy M s j k z Mz := hq
  rcases hq with ⟨hc, hz, hM⟩ | ⟨hc, hz, hM⟩
  · subst z Mz
    exact And.intro (show po_ri_ordinal M s j k (rk_one (-1)) M from Or.inr ⟨⟨h0, h1, h2⟩, by rw [if_neg (fun q => (by rw [e3] at hc; exact hc.elim (fun a => q.2 a) (fun a => a q.1)))], rs_ag.rf⟩) (Nat.le_of_ble_eq_true rfl)
  · subst z
    exact And.intro (show po_ri_ordinal M s j k (rk_one (rs_od M s j k)) Mz from Or.inr ⟨⟨h0, h1, h2⟩, by rw [e3] at hc; rw [if_pos ⟨hc.2, hc.1⟩], hM⟩) (Nat.le_of_ble_eq_true rfl)
/-- a figure, or the place -/
def ri_re (M : rk_M) (s k w : Int) : Int := if w < 4 then rf_g M s w k else rf_pl M s k
theorem rs_set.re {M M1 : rk_M} {s k w : Int} (h : rs_set M s M1) (hc : rs_com M s ≠ 0) (h0 : 0 ≤ k) (h1 : k < M 10 s 0 3) (w0 : 0 ≤ w) (w1 : w < 5) : M1 23 s w k = ri_re M s k w := by
  have hh := h.2.2 hc k h0 h1
  unfold ri_re
  by_cases e : w < 4
  · rw [if_pos e]; exact hh.1 w w0 e
  · rw [if_neg e]
    have e4 : w = 4 := by omega
    subst e4; exact hh.2
def pr_ri_placing (M : rk_M) (s k w : Int) : Prop := ci M
def po_ri_placing (M : rk_M) (s k w : Int) (z : rk_Z) (M' : rk_M) : Prop := (¬ ((0 ≤ s ∧ s < 3) ∧ (0 ≤ k ∧ k < M 2 0 0 4) ∧ 0 ≤ w ∧ w ≤ 4) ∧ z = .inr 0 ∧ M' = M) ∨ (((0 ≤ s ∧ s < 3) ∧ (0 ≤ k ∧ k < M 2 0 0 4) ∧ 0 ≤ w ∧ w ≤ 4) ∧ z = rk_one (if rs_com M s ≠ 0 ∧ M 11 s 0 k ≠ 0 then ri_re M s k w else -1) ∧ rs_ag M M' s)
def pp_ri_placing (as : List rk_V) (M : rk_M) : Prop := as = [rk_r 2 0 0, rk_i (rk_ai as 1), rk_i (rk_ai as 2), rk_i (rk_ai as 3)] ∧ pr_ri_placing M (rk_ai as 1) (rk_ai as 2) (rk_ai as 3)
def qq_ri_placing (as : List rk_V) (M : rk_M) (z : rk_Z) (M' : rk_M) : Prop := po_ri_placing M (rk_ai as 1) (rk_ai as 2) (rk_ai as 3) z M'
set_option maxHeartbeats 1000000 in
set_option maxRecDepth 20000 in
theorem c_ri_placing (l : Launch) (hl : l.stackTraces = false) : rk_Sp l rk_cs yn_ri_placing (.code yn_ri_placing prog_1_method_9_code 5 (some .int)) 5 pp_ri_placing qq_ri_placing 3 := by
  refine rk_mk (kc := kc_ri_placing) (ft := ft_ri) (ca := [(2 * 46, (2, pp_ri_requireSegment, qq_ri_requireSegment, 1)), (2 * 67, (2, pp_ri_requireSkater, qq_ri_requireSkater, 1)), (2 * 120, (2, pp_se_settlesFor, qq_se_settlesFor, 0))]) (th := [(19, 0)]) (stops := []) (rt := 1) ck_ri_placing ftc_ri (List.forall_mem_cons.mpr ⟨rk_ckV (n := 1) (c_ri_requireSegment l hl) ww_ri_requireSegment lk_ri_46 (by decide) (by decide) (by decide) (by decide +kernel) (fun as M h => ⟨_, _, _, _, h.1, rk_rcv_ri⟩), List.forall_mem_cons.mpr ⟨rk_ckV (n := 1) (c_ri_requireSkater l hl) ww_ri_requireSkater lk_ri_67 (by decide) (by decide) (by decide) (by decide +kernel) (fun as M h => ⟨_, _, _, _, h.1, rk_rcv_ri⟩), List.forall_mem_cons.mpr ⟨rk_ckV (n := 1) (c_se_settlesFor l) ww_se_settlesFor lk_ri_120 (by decide) (by decide) (by decide) (by decide +kernel) (fun as M h => ⟨_, _, _, _, h.1, rk_rcv_se⟩), fun _ h => absurd h List.not_mem_nil⟩⟩⟩) (List.forall_mem_cons.mpr ⟨tk_ri_placing_19 l hl, fun _ h => absurd h List.not_mem_nil⟩) (Or.inr (Or.inl ⟨rfl, rfl⟩)) (by decide +kernel) (fun as M h => by rw [h.1]; exact ⟨Nat.le_of_ble_eq_true rfl, rk_nlok rfl⟩) ?_
  intro L as M G hp hrg hG
  obtain ⟨has, hP⟩ := hp
  generalize rk_ai as 1 = s at has hP
  generalize rk_ai as 2 = k at has hP
  generalize rk_ai as 3 = w at has hP
  subst has
  obtain ⟨⟨c1, c2, c3, c4⟩, hs⟩ := hP
  refine hG 40 _ _ _ _ _ rfl ?_
  refine And.intro (And.intro rfl (show pr_ri_requireSegment M s from trivial)) (And.intro (Nat.le_of_ble_eq_true rfl) ?_)
  intro z Mz hq
  have hq : po_ri_requireSegment M s z Mz := hq
  rcases hq with ⟨h0, hz, hM⟩ | ⟨h0, hz, hM⟩
  · subst z Mz
    exact And.intro (show po_ri_placing M s k w (.inr 0) M from Or.inl ⟨by omega, rfl, rfl⟩) (Nat.le_of_ble_eq_true rfl)
  subst z Mz
  refine And.intro (And.intro rfl (show pr_ri_requireSkater M k from trivial)) (And.intro (Nat.le_of_ble_eq_true rfl) ?_)
  intro z Mz hq
  have hq : po_ri_requireSkater M k z Mz := hq
  rcases hq with ⟨h1, hz, hM⟩ | ⟨h1, hz, hM⟩
  · subst z Mz
    exact And.intro (show po_ri_placing M s k w (.inr 0) M from Or.inl ⟨by omega, rfl, rfl⟩) (Nat.le_of_ble_eq_true rfl)
  subst z Mz
  obtain ⟨hok, e3, e4, -⟩ := hs s h0.1 h0.2
  refine And.intro ?_ ?_
  · intro h
    exact And.intro (Nat.le_of_ble_eq_true rfl) (And.intro (show po_ri_placing M s k w (.inr 0) M from Or.inl ⟨by omega, rfl, rfl⟩) (Nat.le_of_ble_eq_true rfl))
  · intro h
    refine And.intro ?_ ?_
    · intro h2
      refine And.intro (And.intro (by omega) (by show _ < (3 : Int); omega)) ?_
      refine And.intro (And.intro rfl (show pr_se_settlesFor M s k from ⟨by omega, by omega, hok⟩)) (And.intro (Nat.le_of_ble_eq_true rfl) ?_)
      intro z Mz hq
      have hq : po_se_settlesFor M s k z Mz := hq
      rcases hq with ⟨hc, hz, hM⟩ | ⟨hc, hz, hM⟩
      · subst z Mz
        refine And.intro (fun _ => ?_) (fun q => absurd rfl q)
        exact And.intro (show po_ri_placing M s k w (rk_one (-1)) M from Or.inr ⟨⟨h0, h1, by omega⟩, by rw [if_neg (fun q => q.2 hc)], rs_ag.rf⟩) (Nat.le_of_ble_eq_true rfl)
      · subst z
        refine And.intro ?_ ?_
        · intro h3
          exact And.intro (show po_ri_placing M s k w (rk_one (-1)) Mz from Or.inr ⟨⟨h0, h1, by omega⟩, by rw [if_neg (fun q => q.1 h3)], hM.1⟩) (Nat.le_of_ble_eq_true rfl)
        · intro h3
          refine And.intro (And.intro (by omega) (by show _ < (5 : Int); omega)) ?_
          refine And.intro (And.intro (by omega) (by show _ < (10 : Int); omega)) ?_
          exact And.intro (show po_ri_placing M s k w (rk_one (Mz 23 s w k)) Mz from Or.inr ⟨⟨h0, h1, by omega⟩, by rw [if_pos ⟨h3, hc⟩, hM.re h3 h1.1 (by omega) h (by omega)], hM.1⟩) (Nat.le_of_ble_eq_true rfl)
    · intro h2
      exact And.intro (Nat.le_of_ble_eq_true rfl) (And.intro (show po_ri_placing M s k w (.inr 0) M from Or.inl ⟨by omega, rfl, rfl⟩) (Nat.le_of_ble_eq_true rfl))
theorem rs_set.pt {M M1 : rk_M} {s a b : Int} (h : rs_set M s M1) (hc : rs_com M s ≠ 0) (a0 : 0 ≤ a) (a1 : a < M 10 s 0 3) (b0 : 0 ≤ b) (b1 : b < M 10 s 0 3) : rs_pt M1 s a b = rs_pt (rf_M M s) s a b :=
  rs_pt_congr (fun w w0 w1 => ((h.2.2 hc a a0 a1).1 w w0 w1).trans rf_M_23.symm) (fun w w0 w1 => ((h.2.2 hc b b0 b1).1 w w0 w1).trans rf_M_23.symm)
def pr_ri_step (M : rk_M) (s a b : Int) : Prop := ci M
def po_ri_step (M : rk_M) (s a b : Int) (z : rk_Z) (M' : rk_M) : Prop := (¬ ((0 ≤ s ∧ s < 3) ∧ (0 ≤ a ∧ a < M 2 0 0 4) ∧ 0 ≤ b ∧ b < M 2 0 0 4) ∧ z = .inr 0 ∧ M' = M) ∨ (((0 ≤ s ∧ s < 3) ∧ (0 ≤ a ∧ a < M 2 0 0 4) ∧ 0 ≤ b ∧ b < M 2 0 0 4) ∧ z = rk_one (if rs_com M s ≠ 0 ∧ M 11 s 0 a ≠ 0 ∧ M 11 s 0 b ≠ 0 then rs_pt (rf_M M s) s a b else -1) ∧ rs_ag M M' s)
def pp_ri_step (as : List rk_V) (M : rk_M) : Prop := as = [rk_r 2 0 0, rk_i (rk_ai as 1), rk_i (rk_ai as 2), rk_i (rk_ai as 3)] ∧ pr_ri_step M (rk_ai as 1) (rk_ai as 2) (rk_ai as 3)
def qq_ri_step (as : List rk_V) (M : rk_M) (z : rk_Z) (M' : rk_M) : Prop := po_ri_step M (rk_ai as 1) (rk_ai as 2) (rk_ai as 3) z M'
set_option maxHeartbeats 1000000 in
set_option maxRecDepth 20000 in
theorem c_ri_step (l : Launch) (hl : l.stackTraces = false) : rk_Sp l rk_cs yn_ri_step (.code yn_ri_step prog_1_method_10_code 5 (some .int)) 5 pp_ri_step qq_ri_step 3 := by
  refine rk_mk (kc := kc_ri_step) (ft := ft_ri) (ca := [(2 * 46, (2, pp_ri_requireSegment, qq_ri_requireSegment, 1)), (2 * 67, (2, pp_ri_requireSkater, qq_ri_requireSkater, 1)), (2 * 120, (2, pp_se_settlesFor, qq_se_settlesFor, 0)), (2 * 128, (3, pp_se_partingStep, qq_se_partingStep, 0))]) (th := []) (stops := []) (rt := 1) ck_ri_step ftc_ri (List.forall_mem_cons.mpr ⟨rk_ckV (n := 1) (c_ri_requireSegment l hl) ww_ri_requireSegment lk_ri_46 (by decide) (by decide) (by decide) (by decide +kernel) (fun as M h => ⟨_, _, _, _, h.1, rk_rcv_ri⟩), List.forall_mem_cons.mpr ⟨rk_ckV (n := 1) (c_ri_requireSkater l hl) ww_ri_requireSkater lk_ri_67 (by decide) (by decide) (by decide) (by decide +kernel) (fun as M h => ⟨_, _, _, _, h.1, rk_rcv_ri⟩), List.forall_mem_cons.mpr ⟨rk_ckV (n := 1) (c_se_settlesFor l) ww_se_settlesFor lk_ri_120 (by decide) (by decide) (by decide) (by decide +kernel) (fun as M h => ⟨_, _, _, _, h.1, rk_rcv_se⟩), List.forall_mem_cons.mpr ⟨rk_ckV (n := 2) (c_se_partingStep l) ww_se_partingStep lk_ri_128 (by decide) (by decide) (by decide) (by decide +kernel) (fun as M h => ⟨_, _, _, _, h.1, rk_rcv_se⟩), fun _ h => absurd h List.not_mem_nil⟩⟩⟩⟩) (fun _ h => absurd h List.not_mem_nil) (Or.inr (Or.inl ⟨rfl, rfl⟩)) (by decide +kernel) (fun as M h => by rw [h.1]; exact ⟨Nat.le_of_ble_eq_true rfl, rk_nlok rfl⟩) ?_
  intro L as M G hp hrg hG
  obtain ⟨has, hP⟩ := hp
  generalize rk_ai as 1 = s at has hP
  generalize rk_ai as 2 = a at has hP
  generalize rk_ai as 3 = b at has hP
  subst has
  obtain ⟨⟨c1, c2, c3, c4⟩, hs⟩ := hP
  refine hG 40 _ _ _ _ _ rfl ?_
  refine And.intro (And.intro rfl (show pr_ri_requireSegment M s from trivial)) (And.intro (Nat.le_of_ble_eq_true rfl) ?_)
  intro z Mz hq
  have hq : po_ri_requireSegment M s z Mz := hq
  rcases hq with ⟨h0, hz, hM⟩ | ⟨h0, hz, hM⟩
  · subst z Mz
    exact And.intro (show po_ri_step M s a b (.inr 0) M from Or.inl ⟨by omega, rfl, rfl⟩) (Nat.le_of_ble_eq_true rfl)
  subst z Mz
  refine And.intro (And.intro rfl (show pr_ri_requireSkater M a from trivial)) (And.intro (Nat.le_of_ble_eq_true rfl) ?_)
  intro z Mz hq
  have hq : po_ri_requireSkater M a z Mz := hq
  rcases hq with ⟨h1, hz, hM⟩ | ⟨h1, hz, hM⟩
  · subst z Mz
    exact And.intro (show po_ri_step M s a b (.inr 0) M from Or.inl ⟨by omega, rfl, rfl⟩) (Nat.le_of_ble_eq_true rfl)
  subst z Mz
  refine And.intro (And.intro rfl (show pr_ri_requireSkater M b from trivial)) (And.intro (Nat.le_of_ble_eq_true rfl) ?_)
  intro z Mz hq
  have hq : po_ri_requireSkater M b z Mz := hq
  rcases hq with ⟨h2, hz, hM⟩ | ⟨h2, hz, hM⟩
  · subst z Mz
    exact And.intro (show po_ri_step M s a b (.inr 0) M from Or.inl ⟨by omega, rfl, rfl⟩) (Nat.le_of_ble_eq_true rfl)
  subst z Mz
  obtain ⟨hok, e3, e4, -⟩ := hs s h0.1 h0.2
  refine And.intro (And.intro (by omega) (by show _ < (3 : Int); omega)) ?_
  refine And.intro (And.intro (by omega) (by show _ < (10 : Int); omega)) ?_
  refine And.intro ?_ ?_
  · intro h
    exact And.intro (show po_ri_step M s a b (rk_one (-1)) M from Or.inr ⟨⟨h0, h1, h2⟩, by rw [if_neg (fun q => q.2.2 h)], rs_ag.rf⟩) (Nat.le_of_ble_eq_true rfl)
  · intro h
    refine And.intro (And.intro rfl (show pr_se_settlesFor M s a from ⟨by omega, by omega, hok⟩)) (And.intro (Nat.le_of_ble_eq_true rfl) ?_)
    intro z Mz hq
    have hq : po_se_settlesFor M s a z Mz := hq
    rcases hq with ⟨hc, hz, hM⟩ | ⟨hc, hz, hM⟩
    · subst z Mz
      refine And.intro (fun q => absurd rfl q) (fun _ => ?_)
      exact And.intro (show po_ri_step M s a b (rk_one (-1)) M from Or.inr ⟨⟨h0, h1, h2⟩, by rw [if_neg (fun q => q.2.1 hc)], rs_ag.rf⟩) (Nat.le_of_ble_eq_true rfl)
    · subst z
      refine And.intro ?_ ?_
      · intro h3
        refine And.intro (And.intro rfl (show pr_se_partingStep Mz s a b from ⟨by omega, by omega, by omega, by omega⟩)) (And.intro (Nat.le_of_ble_eq_true rfl) ?_)
        intro z Mw hq
        have hz : z = rk_one (rs_pt Mz s a b) := hq.1
        have hM : Mw = Mz := hq.2
        subst z Mw
        clear hq
        exact And.intro (show po_ri_step M s a b (rk_one (rs_pt Mz s a b)) Mz from Or.inr ⟨⟨h0, h1, h2⟩, by rw [if_pos ⟨h3, hc, h⟩, hM.pt h3 h1.1 (by omega) h2.1 (by omega)], hM.1⟩) (Nat.le_of_ble_eq_true rfl)
      · intro h3
        exact And.intro (show po_ri_step M s a b (rk_one (-1)) Mz from Or.inr ⟨⟨h0, h1, h2⟩, by rw [if_neg (fun q => q.1 h3)], hM.1⟩) (Nat.le_of_ble_eq_true rfl)
def pr_ri_needed (M : rk_M) (s k pl : Int) : Prop := ci M
def po_ri_needed (M : rk_M) (s k pl : Int) (z : rk_Z) (M' : rk_M) : Prop := (¬ ((0 ≤ s ∧ s < 3) ∧ 0 ≤ k ∧ k < M 2 0 0 4) ∧ z = .inr 0 ∧ M' = M) ∨ (((0 ≤ s ∧ s < 3) ∧ 0 ≤ k ∧ k < M 2 0 0 4) ∧ ¬ (1 ≤ pl ∧ pl ≤ 10) ∧ z = .inr 1 ∧ M' = M) ∨ (((0 ≤ s ∧ s < 3) ∧ 0 ≤ k ∧ k < M 2 0 0 4) ∧ (1 ≤ pl ∧ pl ≤ 10) ∧ M 11 s 0 k = 0 ∧ z = rk_one (-1) ∧ M' = M) ∨ (((0 ≤ s ∧ s < 3) ∧ 0 ≤ k ∧ k < M 2 0 0 4) ∧ (1 ≤ pl ∧ pl ≤ 10) ∧ M 11 s 0 k ≠ 0 ∧ z = rk_one (rs_ls M s k (2 * pl)) ∧ rs_ag M M' s)
def pp_ri_needed (as : List rk_V) (M : rk_M) : Prop := as = [rk_r 2 0 0, rk_i (rk_ai as 1), rk_i (rk_ai as 2), rk_i (rk_ai as 3)] ∧ pr_ri_needed M (rk_ai as 1) (rk_ai as 2) (rk_ai as 3)
def qq_ri_needed (as : List rk_V) (M : rk_M) (z : rk_Z) (M' : rk_M) : Prop := po_ri_needed M (rk_ai as 1) (rk_ai as 2) (rk_ai as 3) z M'
set_option maxHeartbeats 1000000 in
set_option maxRecDepth 20000 in
theorem c_ri_needed (l : Launch) (hl : l.stackTraces = false) : rk_Sp l rk_cs yn_ri_needed (.code yn_ri_needed prog_1_method_11_code 4 (some .int)) 6 pp_ri_needed qq_ri_needed 3 := by
  refine rk_mk (kc := kc_ri_needed) (ft := ft_ri) (ca := [(2 * 46, (2, pp_ri_requireSegment, qq_ri_requireSegment, 1)), (2 * 67, (2, pp_ri_requireSkater, qq_ri_requireSkater, 1)), (2 * 133, (3, pp_se_leastSum, qq_se_leastSum, 0))]) (th := [(21, 1)]) (stops := []) (rt := 1) ck_ri_needed ftc_ri (List.forall_mem_cons.mpr ⟨rk_ckV (n := 1) (c_ri_requireSegment l hl) ww_ri_requireSegment lk_ri_46 (by decide) (by decide) (by decide) (by decide +kernel) (fun as M h => ⟨_, _, _, _, h.1, rk_rcv_ri⟩), List.forall_mem_cons.mpr ⟨rk_ckV (n := 1) (c_ri_requireSkater l hl) ww_ri_requireSkater lk_ri_67 (by decide) (by decide) (by decide) (by decide +kernel) (fun as M h => ⟨_, _, _, _, h.1, rk_rcv_ri⟩), List.forall_mem_cons.mpr ⟨rk_ckV (n := 2) (c_se_leastSum l) ww_se_leastSum lk_ri_133 (by decide) (by decide) (by decide) (by decide +kernel) (fun as M h => ⟨_, _, _, _, h.1, rk_rcv_se⟩), fun _ h => absurd h List.not_mem_nil⟩⟩⟩) (List.forall_mem_cons.mpr ⟨tk_ri_needed_21 l hl, fun _ h => absurd h List.not_mem_nil⟩) (Or.inr (Or.inl ⟨rfl, rfl⟩)) (by decide +kernel) (fun as M h => by rw [h.1]; exact ⟨Nat.le_of_ble_eq_true rfl, rk_nlok rfl⟩) ?_
  intro L as M G hp hrg hG
  obtain ⟨has, hP⟩ := hp
  generalize rk_ai as 1 = s at has hP
  generalize rk_ai as 2 = k at has hP
  generalize rk_ai as 3 = pl at has hP
  subst has
  obtain ⟨⟨c1, c2, c3, c4⟩, hs⟩ := hP
  refine hG 40 _ _ _ _ _ rfl ?_
  refine And.intro (And.intro rfl (show pr_ri_requireSegment M s from trivial)) (And.intro (Nat.le_of_ble_eq_true rfl) ?_)
  intro z Mz hq
  have hq : po_ri_requireSegment M s z Mz := hq
  rcases hq with ⟨h0, hz, hM⟩ | ⟨h0, hz, hM⟩
  · subst z Mz
    exact And.intro (show po_ri_needed M s k pl (.inr 0) M from Or.inl ⟨by omega, rfl, rfl⟩) (Nat.le_of_ble_eq_true rfl)
  subst z Mz
  refine And.intro (And.intro rfl (show pr_ri_requireSkater M k from trivial)) (And.intro (Nat.le_of_ble_eq_true rfl) ?_)
  intro z Mz hq
  have hq : po_ri_requireSkater M k z Mz := hq
  rcases hq with ⟨h1, hz, hM⟩ | ⟨h1, hz, hM⟩
  · subst z Mz
    exact And.intro (show po_ri_needed M s k pl (.inr 0) M from Or.inl ⟨by omega, rfl, rfl⟩) (Nat.le_of_ble_eq_true rfl)
  subst z Mz
  obtain ⟨hok, e3, e4, -⟩ := hs s h0.1 h0.2
  refine And.intro ?_ ?_
  · intro h
    exact And.intro (Nat.le_of_ble_eq_true rfl) (And.intro (show po_ri_needed M s k pl (.inr 1) M from Or.inr (Or.inl ⟨⟨h0, h1⟩, by omega, rfl, rfl⟩)) (Nat.le_of_ble_eq_true rfl))
  · intro h
    refine And.intro ?_ ?_
    · intro h2
      refine And.intro (And.intro (by omega) (by show _ < (3 : Int); omega)) ?_
      refine And.intro (And.intro (by omega) (by omega)) ?_
      refine And.intro (And.intro rfl (show pr_se_leastSum M s k (2 * pl) from ⟨by omega, by omega, hok⟩)) (And.intro (Nat.le_of_ble_eq_true rfl) ?_)
      intro z Mz hq
      have hq : po_se_leastSum M s k (2 * pl) z Mz := hq
      rcases hq with ⟨hc, hz, hM⟩ | ⟨hc, hz, hM⟩
      · subst z Mz
        exact And.intro (show po_ri_needed M s k pl (rk_one (-1)) M from Or.inr (Or.inr (Or.inl ⟨⟨h0, h1⟩, by omega, hc, rfl, rfl⟩))) (Nat.le_of_ble_eq_true rfl)
      · subst z
        exact And.intro (show po_ri_needed M s k pl (rk_one (rs_ls M s k (2 * pl))) Mz from Or.inr (Or.inr (Or.inr ⟨⟨h0, h1⟩, by omega, hc, rfl, hM⟩))) (Nat.le_of_ble_eq_true rfl)
    · intro h2
      exact And.intro (Nat.le_of_ble_eq_true rfl) (And.intro (show po_ri_needed M s k pl (.inr 1) M from Or.inr (Or.inl ⟨⟨h0, h1⟩, by omega, rfl, rfl⟩)) (Nat.le_of_ble_eq_true rfl))
def pr_ri_publish (M : rk_M) (s : Int) : Prop := ci M
def po_ri_publish (M : rk_M) (s : Int) (z : rk_Z) (M' : rk_M) : Prop := (¬ (0 ≤ s ∧ s < 3) ∧ z = .inr 0 ∧ M' = M) ∨ ((0 ≤ s ∧ s < 3) ∧ (M 10 s 0 2 ≠ 0 ∨ rs_com M s = 0) ∧ z = .inr 2 ∧ M' = M) ∨ ((0 ≤ s ∧ s < 3) ∧ ¬ (M 10 s 0 2 ≠ 0 ∨ rs_com M s = 0) ∧ z = rk_one (rs_sta M s (M 2 0 0 4).toNat) ∧ M' = rk_up M 10 s 0 2 1)
def pp_ri_publish (as : List rk_V) (M : rk_M) : Prop := as = [rk_r 2 0 0, rk_i (rk_ai as 1)] ∧ pr_ri_publish M (rk_ai as 1)
def qq_ri_publish (as : List rk_V) (M : rk_M) (z : rk_Z) (M' : rk_M) : Prop := po_ri_publish M (rk_ai as 1) z M'
set_option maxHeartbeats 1000000 in
set_option maxRecDepth 20000 in
theorem c_ri_publish (l : Launch) (hl : l.stackTraces = false) : rk_Sp l rk_cs yn_ri_publish (.code yn_ri_publish prog_1_method_12_code 3 (some .int)) 2 pp_ri_publish qq_ri_publish 3 := by
  refine rk_mk (kc := kc_ri_publish) (ft := ft_ri) (ca := [(2 * 46, (2, pp_ri_requireSegment, qq_ri_requireSegment, 1)), (2 * 54, (2, pp_ri_requireOpen, qq_ri_requireOpen, 1)), (2 * 136, (1, pp_se_isComplete, qq_se_isComplete, 0)), (2 * 146, (1, pp_se_starterCount, qq_se_starterCount, 0))]) (th := [(24, 2)]) (stops := []) (rt := 1) ck_ri_publish ftc_ri (List.forall_mem_cons.mpr ⟨rk_ckV (n := 1) (c_ri_requireSegment l hl) ww_ri_requireSegment lk_ri_46 (by decide) (by decide) (by decide) (by decide +kernel) (fun as M h => ⟨_, _, _, _, h.1, rk_rcv_ri⟩), List.forall_mem_cons.mpr ⟨rk_ckV (n := 1) (c_ri_requireOpen l hl) ww_ri_requireOpen lk_ri_54 (by decide) (by decide) (by decide) (by decide +kernel) (fun as M h => ⟨_, _, _, _, h.1, rk_rcv_ri⟩), List.forall_mem_cons.mpr ⟨rk_ckV (n := 0) (c_se_isComplete l) ww_se_isComplete lk_ri_136 (by decide) (by decide) (by decide) (by decide +kernel) (fun as M h => ⟨_, _, _, _, h.1, rk_rcv_se⟩), List.forall_mem_cons.mpr ⟨rk_ckV (n := 0) (c_se_starterCount l) ww_se_starterCount lk_ri_146 (by decide) (by decide) (by decide) (by decide +kernel) (fun as M h => ⟨_, _, _, _, h.1, rk_rcv_se⟩), fun _ h => absurd h List.not_mem_nil⟩⟩⟩⟩) (List.forall_mem_cons.mpr ⟨tk_ri_publish_24 l hl, fun _ h => absurd h List.not_mem_nil⟩) (Or.inr (Or.inl ⟨rfl, rfl⟩)) (by decide +kernel) (fun as M h => by rw [h.1]; exact ⟨Nat.le_of_ble_eq_true rfl, rk_nlok rfl⟩) ?_
  intro L as M G hp hrg hG
  obtain ⟨has, hP⟩ := hp
  generalize rk_ai as 1 = s at has hP
  subst has
  obtain ⟨⟨c1, c2, c3, c4⟩, hs⟩ := hP
  refine hG 40 _ _ _ _ _ rfl ?_
  refine And.intro (And.intro rfl (show pr_ri_requireSegment M s from trivial)) (And.intro (Nat.le_of_ble_eq_true rfl) ?_)
  intro z Mz hq
  have hq : po_ri_requireSegment M s z Mz := hq
  rcases hq with ⟨h0, hz, hM⟩ | ⟨h0, hz, hM⟩
  · subst z Mz
    exact And.intro (show po_ri_publish M s (.inr 0) M from Or.inl ⟨by omega, rfl, rfl⟩) (Nat.le_of_ble_eq_true rfl)
  subst z Mz
  refine And.intro (And.intro rfl (show pr_ri_requireOpen M s from h0)) (And.intro (Nat.le_of_ble_eq_true rfl) ?_)
  intro z Mz hq
  have hq : po_ri_requireOpen M s z Mz := hq
  rcases hq with ⟨h1, hz, hM⟩ | ⟨h1, hz, hM⟩
  · subst z Mz
    exact And.intro (show po_ri_publish M s (.inr 2) M from Or.inr (Or.inl ⟨h0, Or.inl h1, rfl, rfl⟩)) (Nat.le_of_ble_eq_true rfl)
  subst z Mz
  obtain ⟨hok, e3, e4, -⟩ := hs s h0.1 h0.2
  refine And.intro (And.intro (by omega) (by show _ < (3 : Int); omega)) ?_
  refine And.intro (And.intro rfl (show pr_se_isComplete M s from ⟨by omega, by omega, by omega, by omega⟩)) (And.intro (Nat.le_of_ble_eq_true rfl) ?_)
  intro z Mz hq
  have hz : z = rk_one (rs_com M s) := hq.1
  have hM : Mz = M := hq.2
  subst z Mz
  clear hq
  refine And.intro ?_ ?_
  · intro h2
    refine And.intro (Or.inr rfl) ?_
    have e : rk_up M 10 s 0 2 1 10 s 0 3 = M 2 0 0 4 := (rk_up_ne (by omega)).trans e3
    have es : rs_sta (rk_up M 10 s 0 2 1) s (rk_up M 10 s 0 2 1 10 s 0 3).toNat = rs_sta M s (M 2 0 0 4).toNat := by
      rw [e]
      exact rk_ct_congr _ (fun p _ => by rw [rk_up_off (by omega)])
    refine And.intro (And.intro rfl (show pr_se_starterCount (rk_up M 10 s 0 2 1) s from ⟨by rw [e]; omega, by rw [e]; omega⟩)) (And.intro (Nat.le_of_ble_eq_true rfl) ?_)
    intro z Mz hq
    have hz : z = rk_one (rs_sta M s (M 2 0 0 4).toNat) := hq.1.trans (congrArg rk_one es)
    have hM : Mz = rk_up M 10 s 0 2 1 := hq.2
    subst z Mz
    clear hq
    exact And.intro (show po_ri_publish M s (rk_one (rs_sta M s (M 2 0 0 4).toNat)) (rk_up M 10 s 0 2 1) from Or.inr (Or.inr ⟨h0, fun q => q.elim (fun q => q h1) h2, rfl, rfl⟩)) (Nat.le_of_ble_eq_true rfl)
  · intro h2
    exact And.intro (Nat.le_of_ble_eq_true rfl) (And.intro (show po_ri_publish M s (.inr 2) M from Or.inr (Or.inl ⟨h0, Or.inr h2, rfl, rfl⟩)) (Nat.le_of_ble_eq_true rfl))
end
section
/-! Contracts of the class: totals and ranks -/
def ri_f3 (M M1 : rk_M) : Prop := ∀ t o r i, t ≠ 19 → t ≠ 21 → t ≠ 23 → M1 t o r i = M t o r i
theorem ri_f3.rf {M : rk_M} : ri_f3 M M := fun _ _ _ _ _ _ _ => rfl
theorem ri_f3.tr {M M1 M2 : rk_M} (h : ri_f3 M M1) (h2 : ri_f3 M1 M2) : ri_f3 M M2 := fun t o r i a b c => (h2 t o r i a b c).trans (h t o r i a b c)
theorem ri_f3.a6 {M M1 : rk_M} (h : ri_f3 M M1) : rs_a6 M M1 := fun t o r i hq => h t o r i (by omega) (by omega) (by omega)
theorem rs_ag.f3 {M M1 : rk_M} {o : Int} (h : rs_ag M M1 o) : ri_f3 M M1 := fun t o' r i a b c => h t o' r i (by omega)
theorem ri_f3.ci {M M1 : rk_M} (h : ri_f3 M M1) (hc : ci M) : ci M1 := by
  obtain ⟨hb, hs⟩ := hc
  have e4 : M1 2 0 0 4 = M 2 0 0 4 := h _ _ _ _ (by omega) (by omega) (by omega)
  have e5 : M1 2 0 0 5 = M 2 0 0 5 := h _ _ _ _ (by omega) (by omega) (by omega)
  refine ⟨by rw [e4, e5]; exact hb, fun s s0 s1 => ?_⟩
  obtain ⟨h1, h2, h3, h4, h5, h6⟩ := hs s s0 s1
  refine ⟨h.a6.ok h1, ?_, ?_, ?_, ?_, ?_⟩
  · rw [e4, h 10 s 0 3 (by omega) (by omega) (by omega)]; exact h2
  · rw [e5, h 10 s 0 4 (by omega) (by omega) (by omega)]; exact h3
  · rw [h 10 s 0 2 (by omega) (by omega) (by omega), h.a6.com]; exact h4
  · rw [h 10 s 0 1 (by omega) (by omega) (by omega)]; exact h5
  · rw [h 10 s 0 1 (by omega) (by omega) (by omega)]; exact h6
/-- the first n segments, where they are published, have their places worked out -/
def ri_sp (M : rk_M) (n : Int) (M1 : rk_M) : Prop := ri_f3 M M1 ∧ ∀ s, 0 ≤ s → s < n → s < 3 → M 10 s 0 2 ≠ 0 → ∀ k, 0 ≤ k → k < M 2 0 0 4 → M1 23 s 4 k = rf_pl M s k
def ri_pb (M : rk_M) (n : Nat) : Int := if rk_ct (fun s => M 10 s 0 2 ≠ 0) (fun _ => inferInstance) n = 0 then 0 else 1
def pr_ri_settlePublished (M : rk_M) : Prop := ci M
def po_ri_settlePublished (M : rk_M) (z : rk_Z) (M' : rk_M) : Prop := z = rk_one (ri_pb M 3) ∧ ri_sp M 3 M'
def pp_ri_settlePublished (as : List rk_V) (M : rk_M) : Prop := as = [rk_r 2 0 0] ∧ pr_ri_settlePublished M
def qq_ri_settlePublished (as : List rk_V) (M : rk_M) (z : rk_Z) (M' : rk_M) : Prop := po_ri_settlePublished M z M'
set_option maxHeartbeats 1000000 in
set_option maxRecDepth 20000 in
theorem c_ri_settlePublished (l : Launch) : rk_Sp l rk_cs yn_ri_settlePublished (.code yn_ri_settlePublished prog_1_method_28_code 3 (some .boolean)) 4 pp_ri_settlePublished qq_ri_settlePublished 0 := by
  refine rk_mk (kc := kc_ri_settlePublished) (ft := ft_ri) (ca := [(2 * 204, (1, pp_se_settle, qq_se_settle, 0))]) (th := []) (stops := [4, 33]) (rt := 2) ck_ri_settlePublished ftc_ri (List.forall_mem_cons.mpr ⟨rk_ckV (n := 0) (c_se_settle l) ww_se_settle lk_ri_204 (by decide) (by decide) (by decide) (by decide +kernel) (fun as M h => ⟨_, _, _, _, h.1, rk_rcv_se⟩), fun _ h => absurd h List.not_mem_nil⟩) (fun _ h => absurd h List.not_mem_nil) (Or.inr (Or.inr (Or.inl ⟨rfl, rfl⟩))) (by decide +kernel) (fun as M h => by rw [h.1]; exact ⟨Nat.le_of_ble_eq_true rfl, rk_nlok rfl⟩) ?_
  intro L as M G hp hrg hG
  obtain ⟨has, hP⟩ := hp
  subst has
  have hci : ci M := hP
  have hb01 : ∀ n, ri_pb M n = 0 ∨ ri_pb M n = 1 := fun n => by unfold ri_pb; split <;> simp
  have lp : ∀ i : Nat, i ≤ 3 → ∀ M2 : rk_M, ri_sp M i M2 → G M2 4 [rk_r 2 0 0, rk_i (ri_pb M i), rk_i i] [] 0 := by
    refine rk_loop 3 ?_
    intro i hi hnext M2 hM2
    refine hG 60 _ _ _ _ _ rfl ?_
    refine And.intro ?_ ?_
    · intro h
      have hi' : i = 3 := by omega
      subst hi'
      exact And.intro (hb01 3) (And.intro (show po_ri_settlePublished M (rk_one (ri_pb M 3)) M2 from ⟨rfl, hM2⟩) (Nat.le_of_ble_eq_true rfl))
    · intro h
      have ep : M2 10 i 0 2 = M 10 i 0 2 := hM2.1 _ _ _ _ (by omega) (by omega) (by omega)
      obtain ⟨hok, e3, e4, hcm, -⟩ := hci.2 i (by omega) (by omega)
      refine And.intro (And.intro (by omega) (by show _ < (3 : Int); omega)) ?_
      refine And.intro ?_ ?_
      · intro h1
        have h1 : M 10 i 0 2 = 0 := ep.symm.trans h1
        have e : ri_pb M (i + 1) = ri_pb M i := by unfold ri_pb; rw [rk_ct_f (fun q => q h1)]
        refine hG 20 _ _ _ _ _ rfl ?_
        refine And.intro (And.intro (by omega) (by omega)) ?_
        refine rk_gto (hnext (by omega) M2 ⟨hM2.1, fun s a b c d => ?_⟩) rfl (by rw [e]; rfl) rfl
        by_cases es : s = i
        · subst es; exact absurd h1 d
        · exact hM2.2 s a (by omega) c d
      · intro h1
        have h1 : M 10 i 0 2 ≠ 0 := fun q => h1 (ep.trans q)
        refine And.intro (And.intro (by omega) (by show _ < (3 : Int); omega)) ?_
        refine And.intro (And.intro rfl (show pr_se_settle M2 i from hM2.1.a6.ok hok)) (And.intro (Nat.le_of_ble_eq_true rfl) ?_)
        intro z Mz hq
        have hq : po_se_settle M2 i z Mz := hq
        obtain ⟨hz, hM⟩ := hq
        subst z
        have e : ri_pb M (i + 1) = 1 := by
          unfold ri_pb
          rw [if_neg]
          have e1 : rk_ct (fun s => M 10 s 0 2 ≠ 0) (fun _ => inferInstance) (i + 1) = rk_ct (fun s => M 10 s 0 2 ≠ 0) (fun _ => inferInstance) i + 1 := rk_ct_t h1
          have := (rk_ct_b (fun s => M 10 s 0 2 ≠ 0) (fun _ => inferInstance) i).1
          omega
        refine hG 20 _ _ _ _ _ rfl ?_
        refine And.intro (And.intro (by omega) (by omega)) ?_
        refine rk_gto (hnext (by omega) Mz ⟨hM2.1.tr hM.1.f3, fun s a b c d => ?_⟩) rfl (by rw [e]; rfl) rfl
        intro k k0 k1
        by_cases es : s = i
        · subst es
          have e33 : M2 10 i 0 3 = M 2 0 0 4 := (hM2.1 _ _ _ _ (by omega) (by omega) (by omega)).trans e3
          have h5 := (hM.2.2 (by rw [hM2.1.a6.com]; exact hcm h1) k k0 (by omega)).2
          rw [h5, hM2.1.a6.pl]
        · rw [hM.1 23 s 4 k (fun q => es q.2)]
          exact hM2.2 s a (by omega) c d k k0 k1
  refine hG 10 _ _ _ _ _ rfl ?_
  exact lp 0 (Nat.zero_le _) M ⟨ri_f3.rf, fun s a b => by omega⟩
def ri_st (M : rk_M) (k : Int) (n : Nat) : Int := rk_sm (fun s => if M 10 s 0 2 ≠ 0 ∧ M 11 s 0 k ≠ 0 then M 10 s 0 1 * M 23 s 4 k else 0) n
def ri_fg (M : rk_M) (k : Int) : Prop := (0 ≤ k ∧ k < 10) ∧ ∀ s, 0 ≤ s → s < 3 → (0 ≤ M 10 s 0 1 ∧ M 10 s 0 1 ≤ 20) ∧ (M 10 s 0 2 ≠ 0 → 0 ≤ M 23 s 4 k ∧ M 23 s 4 k ≤ 22)
theorem ri_mb {a b : Int} (ha : 0 ≤ a ∧ a ≤ 20) (hb : 0 ≤ b ∧ b ≤ 22) : 0 ≤ a * b ∧ a * b ≤ 440 := by
  have h1 := Int.mul_nonneg ha.1 hb.1
  have h2 : a * b ≤ 20 * 22 := Int.mul_le_mul ha.2 hb.2 hb.1 (by decide)
  omega
theorem ri_st_b {M : rk_M} {k : Int} (h : ri_fg M k) : ∀ n : Nat, n ≤ 3 → 0 ≤ ri_st M k n ∧ ri_st M k n ≤ 440 * n
  | 0, _ => by show 0 ≤ (0 : Int) ∧ (0 : Int) ≤ _; omega
  | n + 1, hn => by
    have ih := ri_st_b h n (by omega)
    have e : ri_st M k (n + 1) = ri_st M k n + (if M 10 n 0 2 ≠ 0 ∧ M 11 n 0 k ≠ 0 then M 10 n 0 1 * M 23 n 4 k else 0) := rfl
    rw [e]
    have hh := h.2 n (by omega) (by omega)
    split
    · rename_i hc
      have := ri_mb hh.1 (hh.2 hc.1)
      omega
    · omega
def pr_ri_settledTotal (M : rk_M) (k : Int) : Prop := ri_fg M k
def po_ri_settledTotal (M : rk_M) (k : Int) (z : rk_Z) (M' : rk_M) : Prop := z = rk_one (ri_st M k 3) ∧ M' = M
def pp_ri_settledTotal (as : List rk_V) (M : rk_M) : Prop := as = [rk_r 2 0 0, rk_i (rk_ai as 1)] ∧ pr_ri_settledTotal M (rk_ai as 1)
def qq_ri_settledTotal (as : List rk_V) (M : rk_M) (z : rk_Z) (M' : rk_M) : Prop := po_ri_settledTotal M (rk_ai as 1) z M'
set_option maxHeartbeats 1000000 in
set_option maxRecDepth 20000 in
theorem c_ri_settledTotal (l : Launch) : rk_Sp l rk_cs yn_ri_settledTotal (.code yn_ri_settledTotal prog_1_method_29_code 4 (some .int)) 0 pp_ri_settledTotal qq_ri_settledTotal 0 := by
  refine rk_mk (kc := kc_ri_settledTotal) (ft := ft_ri) (ca := []) (th := []) (stops := [4, 61]) (rt := 1) ck_ri_settledTotal ftc_ri (fun _ h => absurd h List.not_mem_nil) (fun _ h => absurd h List.not_mem_nil) (Or.inr (Or.inl ⟨rfl, rfl⟩)) (by decide +kernel) (fun as M h => by rw [h.1]; exact ⟨Nat.le_of_ble_eq_true rfl, rk_nlok rfl⟩) ?_
  intro L as M G hp hrg hG
  obtain ⟨has, hP⟩ := hp
  generalize rk_ai as 1 = k at has hP
  subst has
  have hfg : ri_fg M k := hP
  obtain ⟨hk, hs⟩ := hfg
  have lp : ∀ i : Nat, i ≤ 3 → G M 4 [rk_r 2 0 0, rk_i k, rk_i (ri_st M k i), rk_i i] [] 0 := by
    refine rk_loop 3 ?_
    intro i hi hnext
    have hb := ri_st_b hP i hi
    refine hG 60 _ _ _ _ _ rfl ?_
    refine And.intro ?_ ?_
    · intro h
      have hi' : i = 3 := by omega
      subst hi'
      exact And.intro (show po_ri_settledTotal M k (rk_one (ri_st M k 3)) M from ⟨rfl, rfl⟩) (Nat.le_of_ble_eq_true rfl)
    · intro h
      have hh := hs i (by omega) (by omega)
      have f61 : ∀ v : Int, v = ri_st M k (i + 1) → G M 61 [rk_r 2 0 0, rk_i k, rk_i v, rk_i i] [] 0 := by
        intro v hv
        subst hv
        refine hG 20 _ _ _ _ _ rfl ?_
        refine And.intro (And.intro (by omega) (by omega)) ?_
        exact rk_gto (hnext (by omega)) rfl rfl rfl
      have e : ri_st M k (i + 1) = ri_st M k i + (if M 10 i 0 2 ≠ 0 ∧ M 11 i 0 k ≠ 0 then M 10 i 0 1 * M 23 i 4 k else 0) := rfl
      refine And.intro (And.intro (by omega) (by show _ < (3 : Int); omega)) ?_
      refine And.intro ?_ ?_
      · intro h1
        exact f61 _ (by rw [e, if_neg (fun q => q.1 h1), Int.add_zero])
      · intro h1
        have hm := ri_mb hh.1 (hh.2 h1)
        refine And.intro (And.intro (by omega) (by show _ < (3 : Int); omega)) ?_
        refine And.intro (And.intro (by omega) (by show _ < (10 : Int); omega)) ?_
        refine And.intro ?_ ?_
        · intro h2
          exact f61 _ (by rw [e, if_neg (fun q => q.2 h2), Int.add_zero])
        · intro h2
          refine And.intro (And.intro (by omega) (by show _ < (3 : Int); omega)) ?_
          refine And.intro (And.intro (by omega) (by show _ < (3 : Int); omega)) ?_
          refine And.intro (And.intro (by omega) (by show _ < (5 : Int); omega)) ?_
          refine And.intro (And.intro (by omega) (by show _ < (10 : Int); omega)) ?_
          refine And.intro (And.intro (by show (-2147483648 : Int) ≤ M 10 i 0 1 * M 23 i 4 k; omega) (by show M 10 i 0 1 * M 23 i 4 k ≤ (2147483647 : Int); omega)) ?_
          refine And.intro (And.intro (by show (-2147483648 : Int) ≤ ri_st M k i + M 10 i 0 1 * M 23 i 4 k; omega) (by show ri_st M k i + M 10 i 0 1 * M 23 i 4 k ≤ (2147483647 : Int); omega)) ?_
          exact f61 _ (by rw [e, if_pos ⟨h1, h2⟩])
  refine hG 10 _ _ _ _ _ rfl ?_
  exact lp 0 (Nat.zero_le _)
def ri_ps (M : rk_M) (k : Int) (n : Nat) : Int := rk_ct (fun s => M 10 s 0 2 ≠ 0 ∧ M 11 s 0 k ≠ 0) (fun _ => inferInstance) n
def pr_ri_publishedStarts (M : rk_M) (k : Int) : Prop := 0 ≤ k ∧ k < 10
def po_ri_publishedStarts (M : rk_M) (k : Int) (z : rk_Z) (M' : rk_M) : Prop := z = rk_one (ri_ps M k 3) ∧ M' = M
def pp_ri_publishedStarts (as : List rk_V) (M : rk_M) : Prop := as = [rk_r 2 0 0, rk_i (rk_ai as 1)] ∧ pr_ri_publishedStarts M (rk_ai as 1)
def qq_ri_publishedStarts (as : List rk_V) (M : rk_M) (z : rk_Z) (M' : rk_M) : Prop := po_ri_publishedStarts M (rk_ai as 1) z M'
set_option maxHeartbeats 1000000 in
set_option maxRecDepth 20000 in
theorem c_ri_publishedStarts (l : Launch) : rk_Sp l rk_cs yn_ri_publishedStarts (.code yn_ri_publishedStarts prog_1_method_30_code 4 (some .int)) 0 pp_ri_publishedStarts qq_ri_publishedStarts 0 := by
  refine rk_mk (kc := kc_ri_publishedStarts) (ft := ft_ri) (ca := []) (th := []) (stops := [4, 38]) (rt := 1) ck_ri_publishedStarts ftc_ri (fun _ h => absurd h List.not_mem_nil) (fun _ h => absurd h List.not_mem_nil) (Or.inr (Or.inl ⟨rfl, rfl⟩)) (by decide +kernel) (fun as M h => by rw [h.1]; exact ⟨Nat.le_of_ble_eq_true rfl, rk_nlok rfl⟩) ?_
  intro L as M G hp hrg hG
  obtain ⟨has, hP⟩ := hp
  generalize rk_ai as 1 = k at has hP
  subst has
  obtain ⟨p0, p1⟩ := hP
  have lp : ∀ i : Nat, i ≤ 3 → G M 4 [rk_r 2 0 0, rk_i k, rk_i (ri_ps M k i), rk_i i] [] 0 := by
    refine rk_loop 3 ?_
    intro i hi hnext
    have hb : 0 ≤ ri_ps M k i ∧ ri_ps M k i ≤ i := rk_ct_b _ _ i
    refine hG 60 _ _ _ _ _ rfl ?_
    refine And.intro ?_ ?_
    · intro h
      have hi' : i = 3 := by omega
      subst hi'
      exact And.intro (show po_ri_publishedStarts M k (rk_one (ri_ps M k 3)) M from ⟨rfl, rfl⟩) (Nat.le_of_ble_eq_true rfl)
    · intro h
      have f38 : ∀ v : Int, v = ri_ps M k (i + 1) → G M 38 [rk_r 2 0 0, rk_i k, rk_i v, rk_i i] [] 0 := by
        intro v hv
        subst hv
        refine hG 20 _ _ _ _ _ rfl ?_
        refine And.intro (And.intro (by omega) (by omega)) ?_
        exact rk_gto (hnext (by omega)) rfl rfl rfl
      refine And.intro (And.intro (by omega) (by show _ < (3 : Int); omega)) ?_
      refine And.intro ?_ ?_
      · intro h1
        exact f38 _ (rk_ct_f (fun q => q.1 h1)).symm
      · intro h1
        refine And.intro (And.intro (by omega) (by show _ < (3 : Int); omega)) ?_
        refine And.intro (And.intro (by omega) (by show _ < (10 : Int); omega)) ?_
        refine And.intro ?_ ?_
        · intro h2
          exact f38 _ (rk_ct_f (fun q => q.2 h2)).symm
        · intro h2
          refine And.intro (And.intro (by omega) (by omega)) ?_
          exact f38 _ (rk_ct_t ⟨h1, h2⟩).symm
  refine hG 10 _ _ _ _ _ rfl ?_
  exact lp 0 (Nat.zero_le _)
def ri_wl (M : rk_M) (a b : Int) : Nat → Int
  | 0 => 0
  | n + 1 => if M 10 n 0 2 ≠ 0 ∧ M 10 n 0 0 = 1 then (if M 11 n 0 a ≠ 0 ∧ M 11 n 0 b ≠ 0 ∧ M 23 n 4 a < M 23 n 4 b then 1 else 0) else ri_wl M a b n
theorem ri_wl_01 (M : rk_M) (a b : Int) : ∀ n : Nat, ri_wl M a b n = 0 ∨ ri_wl M a b n = 1
  | 0 => Or.inl rfl
  | n + 1 => by
    unfold ri_wl
    split
    · split <;> simp
    · exact ri_wl_01 M a b n
def pr_ri_winsLastFree (M : rk_M) (a b : Int) : Prop := (0 ≤ a ∧ a < 10) ∧ 0 ≤ b ∧ b < 10
def po_ri_winsLastFree (M : rk_M) (a b : Int) (z : rk_Z) (M' : rk_M) : Prop := z = rk_one (ri_wl M a b 3) ∧ M' = M
def pp_ri_winsLastFree (as : List rk_V) (M : rk_M) : Prop := as = [rk_r 2 0 0, rk_i (rk_ai as 1), rk_i (rk_ai as 2)] ∧ pr_ri_winsLastFree M (rk_ai as 1) (rk_ai as 2)
def qq_ri_winsLastFree (as : List rk_V) (M : rk_M) (z : rk_Z) (M' : rk_M) : Prop := po_ri_winsLastFree M (rk_ai as 1) (rk_ai as 2) z M'
set_option maxHeartbeats 1000000 in
set_option maxRecDepth 20000 in
theorem c_ri_winsLastFree (l : Launch) : rk_Sp l rk_cs yn_ri_winsLastFree (.code yn_ri_winsLastFree prog_1_method_32_code 5 (some .boolean)) 0 pp_ri_winsLastFree qq_ri_winsLastFree 0 := by
  refine rk_mk (kc := kc_ri_winsLastFree) (ft := ft_ri) (ca := []) (th := []) (stops := [2, 78]) (rt := 2) ck_ri_winsLastFree ftc_ri (fun _ h => absurd h List.not_mem_nil) (fun _ h => absurd h List.not_mem_nil) (Or.inr (Or.inr (Or.inl ⟨rfl, rfl⟩))) (by decide +kernel) (fun as M h => by rw [h.1]; exact ⟨Nat.le_of_ble_eq_true rfl, rk_nlok rfl⟩) ?_
  intro L as M G hp hrg hG
  obtain ⟨has, hP⟩ := hp
  generalize rk_ai as 1 = a at has hP
  generalize rk_ai as 2 = b at has hP
  subst has
  obtain ⟨⟨a0, a1⟩, b0, b1⟩ := hP
  have lp : ∀ n : Nat, n ≤ 3 → ri_wl M a b 3 = ri_wl M a b n → ∀ (i : Int) (x : rk_V), i = (n : Int) - 1 → G M 2 [rk_r 2 0 0, rk_i a, rk_i b, rk_i i, x] [] 0 := by
    intro n
    induction n with
    | zero =>
      intro hn he i x hi
      refine hG 20 _ _ _ _ _ rfl ?_
      refine And.intro ?_ ?_
      · intro h
        exact And.intro (Or.inl rfl) (And.intro (show po_ri_winsLastFree M a b (rk_one 0) M from ⟨by rw [he]; rfl, rfl⟩) (Nat.le_of_ble_eq_true rfl))
      · intro h
        omega
    | succ n ih =>
      intro hn he i x hi
      have hi' : i = (n : Int) := by omega
      subst hi'
      have e : ri_wl M a b (n + 1) = if M 10 n 0 2 ≠ 0 ∧ M 10 n 0 0 = 1 then (if M 11 n 0 a ≠ 0 ∧ M 11 n 0 b ≠ 0 ∧ M 23 n 4 a < M 23 n 4 b then 1 else 0) else ri_wl M a b n := rfl
      have f78 : ¬ (M 10 n 0 2 ≠ 0 ∧ M 10 n 0 0 = 1) → G M 78 [rk_r 2 0 0, rk_i a, rk_i b, rk_i n, rk_r 10 n 0] [] 0 := by
        intro hq
        refine hG 20 _ _ _ _ _ rfl ?_
        refine And.intro (And.intro (by omega) (by omega)) ?_
        exact ih (by omega) (by rw [he, e, if_neg hq]) _ _ (by omega)
      refine hG 60 _ _ _ _ _ rfl ?_
      refine And.intro (fun h => by omega) ?_
      intro h
      refine And.intro (And.intro (by omega) (by show _ < (3 : Int); omega)) ?_
      refine And.intro ?_ ?_
      · intro h1
        exact f78 (fun q => q.1 h1)
      · intro h1
        refine And.intro ?_ ?_
        · intro h2
          exact f78 (fun q => h2 q.2)
        · intro h2
          rw [if_pos ⟨h1, h2⟩] at e
          refine And.intro (And.intro (by omega) (by show _ < (10 : Int); omega)) ?_
          refine And.intro ?_ ?_
          · intro h3
            exact And.intro (Or.inl rfl) (And.intro (show po_ri_winsLastFree M a b (rk_one 0) M from ⟨by rw [he, e, if_neg (fun q => q.1 h3)], rfl⟩) (Nat.le_of_ble_eq_true rfl))
          · intro h3
            refine And.intro (And.intro (by omega) (by show _ < (10 : Int); omega)) ?_
            refine And.intro ?_ ?_
            · intro h4
              exact And.intro (Or.inl rfl) (And.intro (show po_ri_winsLastFree M a b (rk_one 0) M from ⟨by rw [he, e, if_neg (fun q => q.2.1 h4)], rfl⟩) (Nat.le_of_ble_eq_true rfl))
            · intro h4
              refine And.intro (And.intro (by omega) (by show _ < (5 : Int); omega)) ?_
              refine And.intro (And.intro (by omega) (by show _ < (10 : Int); omega)) ?_
              refine And.intro (And.intro (by omega) (by show _ < (5 : Int); omega)) ?_
              refine And.intro (And.intro (by omega) (by show _ < (10 : Int); omega)) ?_
              refine And.intro ?_ ?_
              · intro h5
                exact And.intro (Or.inl rfl) (And.intro (show po_ri_winsLastFree M a b (rk_one 0) M from ⟨by rw [he, e, if_neg (fun q => absurd q.2.2 (Int.not_lt.mpr h5))], rfl⟩) (Nat.le_of_ble_eq_true rfl))
              · intro h5
                exact And.intro (Or.inr rfl) (And.intro (show po_ri_winsLastFree M a b (rk_one 1) M from ⟨by rw [he, e, if_pos ⟨h3, h4, h5⟩], rfl⟩) (Nat.le_of_ble_eq_true rfl))
  refine hG 10 _ _ _ _ _ rfl ?_
  exact lp 3 (Nat.le_refl _) rfl _ _ rfl
def ri_rb (M : rk_M) (a b : Int) : Int := if ri_ps M a 3 ≠ ri_ps M b 3 then (if ri_ps M b 3 < ri_ps M a 3 then 1 else 0) else if ri_st M a 3 ≠ ri_st M b 3 then (if ri_st M a 3 < ri_st M b 3 then 1 else 0) else ri_wl M a b 3
def pr_ri_ranksBefore (M : rk_M) (a b : Int) : Prop := ri_fg M a ∧ ri_fg M b
def po_ri_ranksBefore (M : rk_M) (a b : Int) (z : rk_Z) (M' : rk_M) : Prop := z = rk_one (ri_rb M a b) ∧ M' = M
def pp_ri_ranksBefore (as : List rk_V) (M : rk_M) : Prop := as = [rk_r 2 0 0, rk_i (rk_ai as 1), rk_i (rk_ai as 2)] ∧ pr_ri_ranksBefore M (rk_ai as 1) (rk_ai as 2)
def qq_ri_ranksBefore (as : List rk_V) (M : rk_M) (z : rk_Z) (M' : rk_M) : Prop := po_ri_ranksBefore M (rk_ai as 1) (rk_ai as 2) z M'
set_option maxHeartbeats 1000000 in
set_option maxRecDepth 20000 in
theorem c_ri_ranksBefore (l : Launch) : rk_Sp l rk_cs yn_ri_ranksBefore (.code yn_ri_ranksBefore prog_1_method_31_code 5 (some .boolean)) 1 pp_ri_ranksBefore qq_ri_ranksBefore 0 := by
  refine rk_mk (kc := kc_ri_ranksBefore) (ft := ft_ri) (ca := [(2 * 207, (2, pp_ri_publishedStarts, qq_ri_publishedStarts, 0)), (2 * 152, (2, pp_ri_settledTotal, qq_ri_settledTotal, 0)), (2 * 210, (3, pp_ri_winsLastFree, qq_ri_winsLastFree, 0))]) (th := []) (stops := []) (rt := 2) ck_ri_ranksBefore ftc_ri (List.forall_mem_cons.mpr ⟨rk_ckV (n := 1) (c_ri_publishedStarts l) ww_ri_publishedStarts lk_ri_207 (by decide) (by decide) (by decide) (by decide +kernel) (fun as M h => ⟨_, _, _, _, h.1, rk_rcv_ri⟩), List.forall_mem_cons.mpr ⟨rk_ckV (n := 1) (c_ri_settledTotal l) ww_ri_settledTotal lk_ri_152 (by decide) (by decide) (by decide) (by decide +kernel) (fun as M h => ⟨_, _, _, _, h.1, rk_rcv_ri⟩), List.forall_mem_cons.mpr ⟨rk_ckV (n := 2) (c_ri_winsLastFree l) ww_ri_winsLastFree lk_ri_210 (by decide) (by decide) (by decide) (by decide +kernel) (fun as M h => ⟨_, _, _, _, h.1, rk_rcv_ri⟩), fun _ h => absurd h List.not_mem_nil⟩⟩⟩) (fun _ h => absurd h List.not_mem_nil) (Or.inr (Or.inr (Or.inl ⟨rfl, rfl⟩))) (by decide +kernel) (fun as M h => by rw [h.1]; exact ⟨Nat.le_of_ble_eq_true rfl, rk_nlok rfl⟩) ?_
  intro L as M G hp hrg hG
  obtain ⟨has, hP⟩ := hp
  generalize rk_ai as 1 = a at has hP
  generalize rk_ai as 2 = b at has hP
  subst has
  obtain ⟨ha, hb⟩ := hP
  have pa : 0 ≤ ri_ps M a 3 ∧ ri_ps M a 3 ≤ 3 := rk_ct_b _ _ 3
  have pb : 0 ≤ ri_ps M b 3 ∧ ri_ps M b 3 ≤ 3 := rk_ct_b _ _ 3
  have ta := ri_st_b ha 3 (Nat.le_refl _)
  have tb := ri_st_b hb 3 (Nat.le_refl _)
  have ka := ha.1
  have kb := hb.1
  refine hG 60 _ _ _ _ _ rfl ?_
  refine And.intro (And.intro rfl (show pr_ri_publishedStarts M a from ha.1)) (And.intro (Nat.le_of_ble_eq_true rfl) ?_)
  intro z Mz hq
  have hz : z = rk_one (ri_ps M a 3) := hq.1
  have hM : Mz = M := hq.2
  subst z Mz
  clear hq
  refine And.intro (And.intro rfl (show pr_ri_publishedStarts M b from hb.1)) (And.intro (Nat.le_of_ble_eq_true rfl) ?_)
  intro z Mz hq
  have hz : z = rk_one (ri_ps M b 3) := hq.1
  have hM : Mz = M := hq.2
  subst z Mz
  clear hq
  refine And.intro (And.intro (by omega) (by omega)) ?_
  refine And.intro ?_ ?_
  · intro h
    have hp : ¬ (ri_ps M a 3 ≠ ri_ps M b 3) := by omega
    refine And.intro (And.intro rfl (show pr_ri_settledTotal M a from ha)) (And.intro (Nat.le_of_ble_eq_true rfl) ?_)
    intro z Mz hq
    have hz : z = rk_one (ri_st M a 3) := hq.1
    have hM : Mz = M := hq.2
    subst z Mz
    clear hq
    refine And.intro (And.intro rfl (show pr_ri_settledTotal M b from hb)) (And.intro (Nat.le_of_ble_eq_true rfl) ?_)
    intro z Mz hq
    have hz : z = rk_one (ri_st M b 3) := hq.1
    have hM : Mz = M := hq.2
    subst z Mz
    clear hq
    refine And.intro (And.intro (by omega) (by omega)) ?_
    refine And.intro ?_ ?_
    · intro h1
      have ht : ¬ (ri_st M a 3 ≠ ri_st M b 3) := by omega
      refine And.intro (And.intro rfl (show pr_ri_winsLastFree M a b from ⟨ka, kb⟩)) (And.intro (Nat.le_of_ble_eq_true rfl) ?_)
      intro z Mz hq
      have hz : z = rk_one (ri_wl M a b 3) := hq.1
      have hM : Mz = M := hq.2
      subst z Mz
      clear hq
      exact And.intro (ri_wl_01 M a b 3) (And.intro (show po_ri_ranksBefore M a b (rk_one (ri_wl M a b 3)) M from ⟨by unfold ri_rb; rw [if_neg hp, if_neg ht], rfl⟩) (Nat.le_of_ble_eq_true rfl))
    · intro h1
      have ht : ri_st M a 3 ≠ ri_st M b 3 := by omega
      refine And.intro ?_ ?_
      · intro h2
        exact And.intro (Or.inl rfl) (And.intro (show po_ri_ranksBefore M a b (rk_one 0) M from ⟨by unfold ri_rb; rw [if_neg hp, if_pos ht, if_neg (by omega)], rfl⟩) (Nat.le_of_ble_eq_true rfl))
      · intro h2
        exact And.intro (Or.inr rfl) (And.intro (show po_ri_ranksBefore M a b (rk_one 1) M from ⟨by unfold ri_rb; rw [if_neg hp, if_pos ht, if_pos (by omega)], rfl⟩) (Nat.le_of_ble_eq_true rfl))
  · intro h
    have hp : ri_ps M a 3 ≠ ri_ps M b 3 := by omega
    refine And.intro ?_ ?_
    · intro h2
      exact And.intro (Or.inl rfl) (And.intro (show po_ri_ranksBefore M a b (rk_one 0) M from ⟨by unfold ri_rb; rw [if_pos hp, if_neg (by omega)], rfl⟩) (Nat.le_of_ble_eq_true rfl))
    · intro h2
      exact And.intro (Or.inr rfl) (And.intro (show po_ri_ranksBefore M a b (rk_one 1) M from ⟨by unfold ri_rb; rw [if_pos hp, if_pos (by omega)], rfl⟩) (Nat.le_of_ble_eq_true rfl))
theorem ri_sp.fg {M M1 : rk_M} (h : ri_sp M 3 M1) (hc : ci M) {k : Int} (k0 : 0 ≤ k) (k1 : k < M 2 0 0 4) : ri_fg M1 k := by
  obtain ⟨⟨c1, c2, -, -⟩, hs⟩ := hc
  refine ⟨⟨k0, by omega⟩, fun s s0 s1 => ?_⟩
  obtain ⟨hok, e3, e4, hcm, f1, f2⟩ := hs s s0 s1
  have e1 : M1 10 s 0 1 = M 10 s 0 1 := h.1 _ _ _ _ (by omega) (by omega) (by omega)
  have e2 : M1 10 s 0 2 = M 10 s 0 2 := h.1 _ _ _ _ (by omega) (by omega) (by omega)
  refine ⟨by rw [e1]; omega, fun hp => ?_⟩
  rw [e2] at hp
  rw [h.2 s s0 s1 s1 hp k k0 k1]
  have := rf_pl_b M s k (by omega) (by omega)
  omega
def pr_ri_total (M : rk_M) (k : Int) : Prop := ci M
def po_ri_total (M : rk_M) (k : Int) (z : rk_Z) (M' : rk_M) : Prop := (¬ (0 ≤ k ∧ k < M 2 0 0 4) ∧ z = .inr 0 ∧ M' = M) ∨ ((0 ≤ k ∧ k < M 2 0 0 4) ∧ z = rk_one (ri_st M' k 3) ∧ ri_sp M 3 M')
def pp_ri_total (as : List rk_V) (M : rk_M) : Prop := as = [rk_r 2 0 0, rk_i (rk_ai as 1)] ∧ pr_ri_total M (rk_ai as 1)
def qq_ri_total (as : List rk_V) (M : rk_M) (z : rk_Z) (M' : rk_M) : Prop := po_ri_total M (rk_ai as 1) z M'
set_option maxHeartbeats 1000000 in
set_option maxRecDepth 20000 in
theorem c_ri_total (l : Launch) (hl : l.stackTraces = false) : rk_Sp l rk_cs yn_ri_total (.code yn_ri_total prog_1_method_13_code 2 (some .int)) 5 pp_ri_total qq_ri_total 1 := by
  refine rk_mk (kc := kc_ri_total) (ft := ft_ri) (ca := [(2 * 67, (2, pp_ri_requireSkater, qq_ri_requireSkater, 1)), (2 * 149, (1, pp_ri_settlePublished, qq_ri_settlePublished, 0)), (2 * 152, (2, pp_ri_settledTotal, qq_ri_settledTotal, 0))]) (th := []) (stops := []) (rt := 1) ck_ri_total ftc_ri (List.forall_mem_cons.mpr ⟨rk_ckV (n := 1) (c_ri_requireSkater l hl) ww_ri_requireSkater lk_ri_67 (by decide) (by decide) (by decide) (by decide +kernel) (fun as M h => ⟨_, _, _, _, h.1, rk_rcv_ri⟩), List.forall_mem_cons.mpr ⟨rk_ckV (n := 0) (c_ri_settlePublished l) ww_ri_settlePublished lk_ri_149 (by decide) (by decide) (by decide) (by decide +kernel) (fun as M h => ⟨_, _, _, _, h.1, rk_rcv_ri⟩), List.forall_mem_cons.mpr ⟨rk_ckV (n := 1) (c_ri_settledTotal l) ww_ri_settledTotal lk_ri_152 (by decide) (by decide) (by decide) (by decide +kernel) (fun as M h => ⟨_, _, _, _, h.1, rk_rcv_ri⟩), fun _ h => absurd h List.not_mem_nil⟩⟩⟩) (fun _ h => absurd h List.not_mem_nil) (Or.inr (Or.inl ⟨rfl, rfl⟩)) (by decide +kernel) (fun as M h => by rw [h.1]; exact ⟨Nat.le_of_ble_eq_true rfl, rk_nlok rfl⟩) ?_
  intro L as M G hp hrg hG
  obtain ⟨has, hP⟩ := hp
  generalize rk_ai as 1 = k at has hP
  subst has
  have hci : ci M := hP
  refine hG 40 _ _ _ _ _ rfl ?_
  refine And.intro (And.intro rfl (show pr_ri_requireSkater M k from trivial)) (And.intro (Nat.le_of_ble_eq_true rfl) ?_)
  intro z Mz hq
  have hq : po_ri_requireSkater M k z Mz := hq
  rcases hq with ⟨h0, hz, hM⟩ | ⟨h0, hz, hM⟩
  · subst z Mz
    exact And.intro (show po_ri_total M k (.inr 0) M from Or.inl ⟨h0, rfl, rfl⟩) (Nat.le_of_ble_eq_true rfl)
  subst z Mz
  refine And.intro (And.intro rfl (show pr_ri_settlePublished M from hci)) (And.intro (Nat.le_of_ble_eq_true rfl) ?_)
  intro z M1 hq
  have hz : z = rk_one (ri_pb M 3) := hq.1
  have hM := hq.2
  subst z
  clear hq
  have hM : ri_sp M 3 M1 := hM
  refine And.intro (And.intro rfl (show pr_ri_settledTotal M1 k from (hM.fg hci h0.1 h0.2))) (And.intro (Nat.le_of_ble_eq_true rfl) ?_)
  intro z Mz hq
  have hz : z = rk_one (ri_st M1 k 3) := hq.1
  have hM : Mz = M1 := hq.2
  subst z Mz
  clear hq
  exact And.intro (show po_ri_total M k (rk_one (ri_st M1 k 3)) M1 from Or.inr ⟨h0, rfl, by assumption⟩) (Nat.le_of_ble_eq_true rfl)
def pr_ri_rank (M : rk_M) (k : Int) : Prop := ci M
def po_ri_rank (M : rk_M) (k : Int) (z : rk_Z) (M' : rk_M) : Prop := (¬ (0 ≤ k ∧ k < M 2 0 0 4) ∧ z = .inr 0 ∧ M' = M) ∨ ((0 ≤ k ∧ k < M 2 0 0 4) ∧ ri_pb M 3 = 0 ∧ z = rk_one (-1) ∧ ri_sp M 3 M') ∨ ((0 ≤ k ∧ k < M 2 0 0 4) ∧ ri_pb M 3 ≠ 0 ∧ z = rk_one (1 + rk_ct (fun o => ri_rb M' o k ≠ 0) (fun _ => inferInstance) (M 2 0 0 4).toNat) ∧ ri_sp M 3 M')
def pp_ri_rank (as : List rk_V) (M : rk_M) : Prop := as = [rk_r 2 0 0, rk_i (rk_ai as 1)] ∧ pr_ri_rank M (rk_ai as 1)
def qq_ri_rank (as : List rk_V) (M : rk_M) (z : rk_Z) (M' : rk_M) : Prop := po_ri_rank M (rk_ai as 1) z M'
set_option maxHeartbeats 1000000 in
set_option maxRecDepth 20000 in
theorem c_ri_rank (l : Launch) (hl : l.stackTraces = false) : rk_Sp l rk_cs yn_ri_rank (.code yn_ri_rank prog_1_method_14_code 4 (some .int)) 5 pp_ri_rank qq_ri_rank 1 := by
  refine rk_mk (kc := kc_ri_rank) (ft := ft_ri) (ca := [(2 * 67, (2, pp_ri_requireSkater, qq_ri_requireSkater, 1)), (2 * 149, (1, pp_ri_settlePublished, qq_ri_settlePublished, 0)), (2 * 158, (3, pp_ri_ranksBefore, qq_ri_ranksBefore, 0))]) (th := []) (stops := [18, 38]) (rt := 1) ck_ri_rank ftc_ri (List.forall_mem_cons.mpr ⟨rk_ckV (n := 1) (c_ri_requireSkater l hl) ww_ri_requireSkater lk_ri_67 (by decide) (by decide) (by decide) (by decide +kernel) (fun as M h => ⟨_, _, _, _, h.1, rk_rcv_ri⟩), List.forall_mem_cons.mpr ⟨rk_ckV (n := 0) (c_ri_settlePublished l) ww_ri_settlePublished lk_ri_149 (by decide) (by decide) (by decide) (by decide +kernel) (fun as M h => ⟨_, _, _, _, h.1, rk_rcv_ri⟩), List.forall_mem_cons.mpr ⟨rk_ckV (n := 2) (c_ri_ranksBefore l) ww_ri_ranksBefore lk_ri_158 (by decide) (by decide) (by decide) (by decide +kernel) (fun as M h => ⟨_, _, _, _, h.1, rk_rcv_ri⟩), fun _ h => absurd h List.not_mem_nil⟩⟩⟩) (fun _ h => absurd h List.not_mem_nil) (Or.inr (Or.inl ⟨rfl, rfl⟩)) (by decide +kernel) (fun as M h => by rw [h.1]; exact ⟨Nat.le_of_ble_eq_true rfl, rk_nlok rfl⟩) ?_
  intro L as M G hp hrg hG
  obtain ⟨has, hP⟩ := hp
  generalize rk_ai as 1 = k at has hP
  subst has
  have hci : ci M := hP
  obtain ⟨⟨c1, c2, c3, c4⟩, hs⟩ := hP
  refine hG 40 _ _ _ _ _ rfl ?_
  refine And.intro (And.intro rfl (show pr_ri_requireSkater M k from trivial)) (And.intro (Nat.le_of_ble_eq_true rfl) ?_)
  intro z Mz hq
  have hq : po_ri_requireSkater M k z Mz := hq
  rcases hq with ⟨h0, hz, hM⟩ | ⟨h0, hz, hM⟩
  · subst z Mz
    exact And.intro (show po_ri_rank M k (.inr 0) M from Or.inl ⟨h0, rfl, rfl⟩) (Nat.le_of_ble_eq_true rfl)
  subst z Mz
  refine And.intro (And.intro rfl (show pr_ri_settlePublished M from hci)) (And.intro (Nat.le_of_ble_eq_true rfl) ?_)
  intro z M1 hq
  have hz : z = rk_one (ri_pb M 3) := hq.1
  have hM := hq.2
  subst z
  clear hq
  have hM1 : ri_sp M 3 M1 := hM
  refine And.intro ?_ ?_
  · intro h1
    have e4 : M1 2 0 0 4 = M 2 0 0 4 := hM1.1 _ _ _ _ (by omega) (by omega) (by omega)
    have lp : ∀ i : Nat, i ≤ (M 2 0 0 4).toNat → G M1 18 [rk_r 2 0 0, rk_i k, rk_i (rk_ct (fun o => ri_rb M1 o k ≠ 0) (fun _ => inferInstance) i), rk_i i] [] 1 := by
      refine rk_loop (M 2 0 0 4).toNat ?_
      intro i hi hnext
      have hb := rk_ct_b (fun o => ri_rb M1 o k ≠ 0) (fun _ => inferInstance) i
      have f38 : ∀ v : Int, v = rk_ct (fun o => ri_rb M1 o k ≠ 0) (fun _ => inferInstance) (i + 1) → (i : Int) < M 2 0 0 4 → G M1 38 [rk_r 2 0 0, rk_i k, rk_i v, rk_i i] [] 1 := by
        intro v hv hlt
        subst hv
        refine hG 20 _ _ _ _ _ rfl ?_
        refine And.intro (And.intro (by omega) (by omega)) ?_
        exact rk_gto (hnext (by omega)) rfl rfl rfl
      refine hG 60 _ _ _ _ _ rfl ?_
      refine And.intro ?_ ?_
      · intro h
        have h : M1 2 0 0 4 ≤ (i : Int) := h
        rw [e4] at h
        have hi' : i = (M 2 0 0 4).toNat := by omega
        subst hi'
        refine And.intro (And.intro (by omega) (by omega)) ?_
        exact And.intro (show po_ri_rank M k (rk_one (1 + rk_ct (fun o => ri_rb M1 o k ≠ 0) (fun _ => inferInstance) (M 2 0 0 4).toNat)) M1 from Or.inr (Or.inr ⟨h0, h1, rfl, hM1⟩)) (Nat.le_of_ble_eq_true rfl)
      · intro h
        have h : (i : Int) < M1 2 0 0 4 := h
        rw [e4] at h
        refine And.intro (And.intro rfl (show pr_ri_ranksBefore M1 i k from ⟨hM1.fg hci (by omega) h, hM1.fg hci h0.1 h0.2⟩)) (And.intro (Nat.le_of_ble_eq_true rfl) ?_)
        intro z Mz hq
        have hz : z = rk_one (ri_rb M1 i k) := hq.1
        have hM : Mz = M1 := hq.2
        subst z Mz
        clear hq
        refine And.intro ?_ ?_
        · intro h2
          exact f38 _ (rk_ct_f (fun q => q h2)).symm h
        · intro h2
          refine And.intro (And.intro (by omega) (by omega)) ?_
          exact f38 _ (rk_ct_t (f := fun o => ri_rb M1 o k ≠ 0) h2).symm h
    exact lp 0 (Nat.zero_le _)
  · intro h1
    exact And.intro (show po_ri_rank M k (rk_one (-1)) M1 from Or.inr (Or.inl ⟨h0, h1, rfl, hM1⟩)) (Nat.le_of_ble_eq_true rfl)
end
section
/-! Handlers: the law's helpers catch what the class throws -/
/-- a condition's conjuncts -/
def rk_cj (w : Cond) : Cond → Bool
  | .and a b => rk_cj w a || rk_cj w b
  | c => decide (c = w)
theorem rk_cj_ok {w : Cond} {a : Array Value} {s : State} : ∀ c : Cond, rk_cj w c = true → c.before a s = true → w.before a s = true := by
  intro c
  induction c with
  | and c d ih1 ih2 =>
    intro h hb
    rw [Cond.before_and, Bool.and_eq_true] at hb
    have h' : (rk_cj w c || rk_cj w d) = true := h
    rw [Bool.or_eq_true] at h'
    rcases h' with h1 | h1
    · exact ih1 h1 hb.1
    · exact ih2 h1 hb.2
  | _ =>
    intro h hb
    have h1 := of_decide_eq_true h
    rw [← h1]; exact hb
theorem rk_nc : (List.range 3).all (fun x => (List.range 3).all fun y => decide (x = y) || rk_cj (.not (.castable (rk_xn x) (rk_xn y))) narrow_1) = true := by decide +kernel
theorem rk_una {E : rk_E} {s : State} (hN : rk_NN E s) {x y : Nat} (hx : x < 3) (hy : y < 3) (hxy : x ≠ y) {cx cy : ClassId} (h1 : s.vm.findClass (rk_xn x) = some cx) (h2 : s.vm.findClass (rk_xn y) = some cy) : s.vm.assignable cx cy = false := by
  obtain ⟨-, -, -, -, hW, a, hg, -⟩ := hN
  rw [Cond.before_and, Bool.and_eq_true] at hg
  have h3 := List.all_eq_true.mp (List.all_eq_true.mp rk_nc x (List.mem_range.mpr hx)) y (List.mem_range.mpr hy)
  rw [Bool.or_eq_true] at h3
  have h4 := h3.resolve_left (fun q => hxy (of_decide_eq_true q))
  obtain ⟨c, t, q1, q2, q3⟩ := Cond.notCastable_spec (rk_cj_ok narrow_1 h4 hg.2)
  rw [hW.alike.findClass] at h1 h2
  cases q1.symm.trans h1
  cases q2.symm.trans h2
  rw [hW.alike.assignable]
  exact q3
/-- a helper's handlers: where each begins, its entry in the pool, the number of its class -/
abbrev rk_HS : Type := List (Nat × Nat × Nat)
def rk_hs (lo hi : Nat) (hs : rk_HS) : List (Nat × Nat × Nat × Nat) := hs.map fun q => (lo, hi, q.1, q.2.1)
def rk_hdl (lo hi : Nat) (hs : rk_HS) (pc x : Nat) : Option Nat := if lo ≤ pc ∧ pc < hi then (hs.find? fun q => q.2.2 == x).map (·.1) else none
def rk_hck (own : String) (hs : rk_HS) : Bool := hs.all fun q => decide (Cond.classLink own q.2.1 (rk_xn q.2.2) ∈ lw_tbl) && (decide (q.2.1 ≠ 0) && decide (q.2.2 < 3))
section RKH
variable {p : Program} {l : Launch} {e : Env} {R : Room} {s : State} {m : MethodId} {args : Array Value} {below : List Frame} {meth : Method} {c : Code} {Q : State → Prop}
variable {E : rk_E} {cl : List vw_C} {M : rk_M} {al rest : List rk_V} {κ : Nat}
theorem rk_TA_in {own : String} (hTB : rk_TB s) (hN : rk_NN E s) (hown : s.vm.findClass own = some m.cls) {lo hi : Nat} {hs : rk_HS} (hck : rk_hck own hs = true) (htab : c.exceptionTable.toList = tableOf (rk_hs lo hi hs)) {pc x h : Nat} (hh : rk_hdl lo hi hs pc x = some h)
    (kk : ∀ a : Int, rk_A p l e R s m args below meth c Q E cl M h al [rk_r 0 a 0] κ) : rk_TA p l e R s m args below meth c Q E cl x M pc al rest κ := by
  intro H locs ls hH hS hL T a cell hTh X hcell hvm hcls
  unfold rk_hdl at hh
  split at hh
  · rename_i hcov
    cases hf : hs.find? (fun q => q.2.2 == x) with
    | none => rw [hf] at hh; cases hh
    | some q =>
      rw [hf] at hh
      have hq1 : q.1 = h := Option.some.inj hh
      obtain ⟨hqx, as', bs, hsp, hno⟩ := List.find?_eq_some_iff_append.mp hf
      have hqx' : q.2.2 = x := by simpa using hqx
      have hckq : ∀ r ∈ hs, Cond.classLink own r.2.1 (rk_xn r.2.2) ∈ lw_tbl ∧ r.2.1 ≠ 0 ∧ r.2.2 < 3 := by
        intro r hr
        have h1 := List.all_eq_true.mp hck r hr
        simp only [Bool.and_eq_true, decide_eq_true_eq] at h1
        exact ⟨h1.1, h1.2.1, h1.2.2⟩
      have hqin : q ∈ hs := by rw [hsp]; simp
      obtain ⟨hq2, hq3, hq4⟩ := hckq q hqin
      have hsx : s.vm.findClass (rk_xn x) = some cell.cls := by rw [← X.warmed.alike.findClass]; exact hcls
      have hpl : e.platform.magicAccessors = ({} : Platform).magicAccessors := by rw [X.admits.platform]
      obtain ⟨k0, hk0, -⟩ := Vm.findClass_spec hsx
      have hself : s.vm.assignable cell.cls cell.cls = true := by
        show (cell.cls == cell.cls || _) = true
        rw [beq_self_eq_true, Bool.true_or]
      have hend := X.catches_of_link hown (x := (⟨lo, hi, q.1, q.2.1⟩ : ExceptionTableEntry)) hq3 (hTB _ hq2 (Or.inl rfl) args) (cT := cell.cls) (thrown := cell.cls) (by rw [hqx']; exact hsx) hself
      obtain ⟨vm', X', hst⟩ := X.caughtThrough a (g := F0 m pc ls (rest.map (rk_vl E))) rfl (cell := cell) (by rw [hTh]; exact hcell) (by rw [hvm]; rfl) ⟨k0, hk0⟩
        (as'.map fun r => (⟨lo, hi, r.1, r.2.1⟩ : ExceptionTableEntry)) ⟨lo, hi, q.1, q.2.1⟩ (bs.map fun r => (⟨lo, hi, r.1, r.2.1⟩ : ExceptionTableEntry))
        (by rw [htab, hsp]; simp only [rk_hs, tableOf, List.map_map, List.map_append, List.map_cons]; rfl)
        (by
          intro y hy
          obtain ⟨r, hr, rfl⟩ := List.mem_map.mp hy
          have hrin : r ∈ hs := by rw [hsp]; exact List.mem_append_left _ hr
          obtain ⟨hr2, hr3, hr4⟩ := hckq r hrin
          have hrx : r.2.2 ≠ x := by
            have := hno r hr
            simpa using this
          obtain ⟨cr, hcr, hcl⟩ := Cond.classLink_spec hown (hTB _ hr2 (Or.inl rfl) args) e.platform hpl
          exact Or.inr ⟨hr3, cr, hcl, rk_una hN (by omega) hr4 (fun e => hrx e.symm) hsx hcr⟩)
        (by simp [covers, F0]; omega) hend.1
      subst hq1
      obtain ⟨t, h1, h2⟩ := kk a H locs ls hH hS hL (fun v hv => by rw [List.mem_singleton.mp hv]; exact Or.inl rfl) (T.setVm vm') hTh X'
      refine ⟨t, ?_, h2⟩
      rw [X.pushThrowing_eq]
      exact hst _ h1
  · cases hh
end RKH
/-- a method with handlers, all over one stretch -/
def rk_ctxH (kc : List (Nat × Jvm.ClassFile.Instr × Nat)) (ft : List (Nat × Nat × Nat × Int)) (ca : List (Nat × rk_F)) (lo hi : Nat) (hs : rk_HS) (stops : List Nat) (rt most : Nat) : rk_C := (fun pc => rk_lk pc kc, fun i => rk_lk i ft, fun i => rk_lk i ca, fun _ => none, rk_hdl lo hi hs, stops, rt, most)
theorem rk_mkH {l : Launch} {y : MethodName} {cc : ByteArray} {nL d : Nat} {ret : Option FieldType} {kc : List (Nat × Jvm.ClassFile.Instr × Nat)} {ft : List (Nat × Nat × Nat × Int)} {ca : List (Nat × rk_F)} {lo hi : Nat} {hs : rk_HS} {stops : List Nat} {rt most : Nat} {pre : List rk_V → rk_M → Prop} {post : List rk_V → rk_M → rk_Z → rk_M → Prop}
    (hck : rk_chk cc kc = true) (hft : rk_ftc y.cls ft = true) (hca : ∀ q ∈ ca, rk_CK l y.cls d q.1 q.2) (hhc : rk_hck y.cls hs = true) (hcat : ∀ q ∈ ca, ∀ as M x M', q.2.2.2.1 as M (.inr x) M' → ∃ h, (hs.find? fun q => q.2.2 == x).map (·.1) = some h) (hrt : rk_rtk rt ret) (hy : plainName y.cls = true) (hnl : ∀ as M, pre as M → as.length ≤ nL ∧ ∀ (E : rk_E), ∀ a ∈ as, (rk_vl E a).category = 1)
    (body : ∀ (L : Nat) (as : List rk_V) (M : rk_M) (G : rk_G), pre as M → (∀ t o r j, rk_rg (M t o r j)) → rk_Go (rk_ctxH kc ft ca lo hi hs stops rt most) L nL G (post as M) → G M 0 (as ++ List.replicate (nL - as.length) rk_u) [] 0) : rk_Sp l rk_cs y (.codeWith y cc nL ret (rk_hs lo hi hs)) d pre post most := by
  intro E as M hpre
  obtain ⟨hlen, hcat1⟩ := hnl as M hpre
  refine MetFree.of_bodyS (code := cc) (maxLocals := nL) (ret := ret) hy ?_ ?_
  · intro args s m h hn
    obtain ⟨m', meth, c, h0, h1, h2, h3, h4, -, h5, h6, -⟩ := Cond.codeWith_spec (atoms_spec (ws := [.codeWith y cc nL ret (rk_hs lo hi hs)]) h _ List.mem_cons_self)
    cases hn.symm.trans h0
    exact ⟨meth, c, h1, h2, h3, h4, h5, h6⟩
  · intro p e s m args below meth c s₁ B hml hP _
    obtain ⟨rfl, hok, hTB, hO, hT, hH, hn⟩ := hP
    have hh0 : s₁.heap = s.heap := by rw [B.state]; rfl
    obtain ⟨ls, he, hL⟩ := rk_entry (nL := nL) m hok (hcat1 E) hlen
    have hown : s.vm.findClass y.cls = some m.cls := findClass_of_methodNamed B.named
    have hcodeV := atoms_spec (ws := [.codeWith y cc nL ret (rk_hs lo hi hs)]) B.pre _ List.mem_cons_self
    have htab : c.exceptionTable.toList = tableOf (rk_hs lo hi hs) := by
      obtain ⟨m', meth', c', h0, h1, h2, -, -, ht, -, -, -⟩ := Cond.codeWith_spec hcodeV
      cases B.named.symm.trans h0
      cases B.method.symm.trans h1
      have hcc : c' = c := Option.some.inj (h2.symm.trans (Stand.of_body B).code)
      rw [← hcc, ← ht, table_eq]
    have hC : rk_Cx p l e (rk_rm d most) s m ((as.map (rk_vl E)).toArray) below meth c cc E rk_cs (rk_ctxH kc ft ca lo hi hs stops rt most) nL (post as M) := by
      refine ⟨rk_chk_ok hck, rk_FL_of hft hTB hown, fun idx ci k z q f fs on rn t _ hq hk hf h1 _ => rk_fin hq hk hf h1, fun pc key i F hF hi' hii M al as rest κ hal has hrl hp hκ kk => ?_, fun pc x hx' => (by cases hx'), fun pc x => ⟨fun hno hex => ?_, fun h hh M al rest κ kk => rk_TA_in hTB hn hown hhc htab hh kk⟩, ?_⟩
      · exact rk_CK.run (hca _ (rk_lk_in hF)) B.exec B.bytes hTB hO hT hn hown hml (rk_chk_ok hck pc i 3 hi').1 hii M al as rest κ hal has hrl hp hκ kk
      · obtain ⟨idx, i, F, as1, M1, M1', hF, hi', hii, hpo⟩ := hex
        obtain ⟨h, hh⟩ := hcat _ (rk_lk_in hF) _ _ _ _ hpo
        have hno : rk_hdl lo hi hs pc x = none := hno
        unfold rk_hdl at hno
        intro z hz
        rw [htab] at hz
        simp only [tableOf, rk_hs, List.map_map, List.mem_map, Function.comp] at hz
        obtain ⟨q, -, rfl⟩ := hz
        by_cases hcv : lo ≤ pc ∧ pc < hi
        · rw [if_pos hcv, hh] at hno; cases hno
        · simp only [covers]
          simp
          omega
      · rw [B.returns]; exact hrt
    have hA := body E.L as M (rk_A p l e (rk_rm d most) s m ((as.map (rk_vl E)).toArray) below meth c (rk_QQ below ((as.map (rk_vl E)).toArray) s E rk_cs (post as M) most) E rk_cs) hpre hH.1
      (fun f M pc al st κ hal h => rk_run B.exec B.bytes hTB hO hT hn B.notSynchronized hC (fun _ _ _ _ _ _ h => h) f M pc al st κ hal h)
    have hW := hA s.heap [] ls hH va_S.rf hL (fun v hv => by cases hv)
    obtain ⟨t, a1, o, b1, b2, b3, b4, b5⟩ := hW s₁ hh0 (Stand.of_body B)
    exact ⟨t, o, by rw [he]; exact a1, b1, b2, b3, b4, b5⟩
end
section
/-! Names, code and links of the law's methods, by program (wip/whole/gen44.py) -/
def ft_la : List (Nat × Nat × Nat × Int) := []
theorem ftc_la : rk_ftc "OrdinalRinkLaw" ft_la = true := rfl
def yn_la_event : MethodName := ⟨"OrdinalRinkLaw", "event", "(LOrdinalRink;II)I"⟩
def kc_la_event : List (Nat × Jvm.ClassFile.Instr × Nat) := [(0, .aload_n 0, 1), (1, .iload_n 1, 1), (2, .iload_n 2, 1), (3, .invokevirtual 7, 3), (6, .goto 6, 3), (9, .astore_n 3, 1), (10, .iconst 1, 1), (11, .ireturn, 1), (12, .iconst 0, 1), (13, .ireturn, 1)]
theorem ck_la_event : rk_chk method_3_code kc_la_event = true := by decide +kernel
def yn_la_segment : MethodName := ⟨"OrdinalRinkLaw", "segment", "(LOrdinalRink;III)I"⟩
def kc_la_segment : List (Nat × Jvm.ClassFile.Instr × Nat) := [(0, .aload_n 0, 1), (1, .iload_n 1, 1), (2, .iload_n 2, 1), (3, .iload_n 3, 1), (4, .invokevirtual 15, 3), (7, .goto 15, 3), (10, .astore 4, 2), (12, .iconst 1, 1), (13, .ireturn, 1), (14, .astore 4, 2), (16, .iconst 2, 1), (17, .ireturn, 1), (18, .astore 4, 2), (20, .iconst 3, 1), (21, .ireturn, 1), (22, .iconst 0, 1), (23, .ireturn, 1)]
theorem ck_la_segment : rk_chk method_4_code kc_la_segment = true := by decide +kernel
def yn_la_mark : MethodName := ⟨"OrdinalRinkLaw", "mark", "(LOrdinalRink;IIIII)I"⟩
def kc_la_mark : List (Nat × Jvm.ClassFile.Instr × Nat) := [(0, .aload_n 0, 1), (1, .iload_n 1, 1), (2, .iload_n 2, 1), (3, .iload_n 3, 1), (4, .iload 4, 2), (6, .iload 5, 2), (8, .invokevirtual 23, 3), (11, .goto 15, 3), (14, .astore 6, 2), (16, .iconst 1, 1), (17, .ireturn, 1), (18, .astore 6, 2), (20, .iconst 2, 1), (21, .ireturn, 1), (22, .astore 6, 2), (24, .iconst 3, 1), (25, .ireturn, 1), (26, .iconst 0, 1), (27, .ireturn, 1)]
theorem ck_la_mark : rk_chk method_5_code kc_la_mark = true := by decide +kernel
def yn_la_deduct : MethodName := ⟨"OrdinalRinkLaw", "deduct", "(LOrdinalRink;IIII[J)I"⟩
def kc_la_deduct : List (Nat × Jvm.ClassFile.Instr × Nat) := [(0, .aload 5, 2), (2, .iconst 0, 1), (3, .aload_n 0, 1), (4, .iload_n 1, 1), (5, .iload_n 2, 1), (6, .iload_n 3, 1), (7, .iload 4, 2), (9, .invokevirtual 27, 3), (12, .i2l, 1), (13, .lastore, 1), (14, .goto 15, 3), (17, .astore 6, 2), (19, .iconst 1, 1), (20, .ireturn, 1), (21, .astore 6, 2), (23, .iconst 2, 1), (24, .ireturn, 1), (25, .astore 6, 2), (27, .iconst 3, 1), (28, .ireturn, 1), (29, .iconst 0, 1), (30, .ireturn, 1)]
theorem ck_la_deduct : rk_chk method_6_code kc_la_deduct = true := by decide +kernel
def yn_la_strike : MethodName := ⟨"OrdinalRinkLaw", "strike", "(LOrdinalRink;IIZ[J)I"⟩
def kc_la_strike : List (Nat × Jvm.ClassFile.Instr × Nat) := [(0, .aload 4, 2), (2, .iconst 0, 1), (3, .aload_n 0, 1), (4, .iload_n 1, 1), (5, .iload_n 2, 1), (6, .iload_n 3, 1), (7, .invokevirtual 31, 3), (10, .i2l, 1), (11, .lastore, 1), (12, .goto 11, 3), (15, .astore 5, 2), (17, .iconst 1, 1), (18, .ireturn, 1), (19, .astore 5, 2), (21, .iconst 2, 1), (22, .ireturn, 1), (23, .iconst 0, 1), (24, .ireturn, 1)]
theorem ck_la_strike : rk_chk method_7_code kc_la_strike = true := by decide +kernel
def yn_la_withdraw : MethodName := ⟨"OrdinalRinkLaw", "withdraw", "(LOrdinalRink;II[J)I"⟩
def kc_la_withdraw : List (Nat × Jvm.ClassFile.Instr × Nat) := [(0, .aload_n 3, 1), (1, .iconst 0, 1), (2, .aload_n 0, 1), (3, .iload_n 1, 1), (4, .iload_n 2, 1), (5, .invokevirtual 35, 3), (8, .i2l, 1), (9, .lastore, 1), (10, .goto 15, 3), (13, .astore 4, 2), (15, .iconst 1, 1), (16, .ireturn, 1), (17, .astore 4, 2), (19, .iconst 2, 1), (20, .ireturn, 1), (21, .astore 4, 2), (23, .iconst 3, 1), (24, .ireturn, 1), (25, .iconst 0, 1), (26, .ireturn, 1)]
theorem ck_la_withdraw : rk_chk method_8_code kc_la_withdraw = true := by decide +kernel
def yn_la_ordinal : MethodName := ⟨"OrdinalRinkLaw", "ordinal", "(LOrdinalRink;III[J)I"⟩
def kc_la_ordinal : List (Nat × Jvm.ClassFile.Instr × Nat) := [(0, .aload 4, 2), (2, .iconst 0, 1), (3, .aload_n 0, 1), (4, .iload_n 1, 1), (5, .iload_n 2, 1), (6, .iload_n 3, 1), (7, .invokevirtual 39, 3), (10, .i2l, 1), (11, .lastore, 1), (12, .goto 7, 3), (15, .astore 5, 2), (17, .iconst 1, 1), (18, .ireturn, 1), (19, .iconst 0, 1), (20, .ireturn, 1)]
theorem ck_la_ordinal : rk_chk method_9_code kc_la_ordinal = true := by decide +kernel
def yn_la_placing : MethodName := ⟨"OrdinalRinkLaw", "placing", "(LOrdinalRink;III[J)I"⟩
def kc_la_placing : List (Nat × Jvm.ClassFile.Instr × Nat) := [(0, .aload 4, 2), (2, .iconst 0, 1), (3, .aload_n 0, 1), (4, .iload_n 1, 1), (5, .iload_n 2, 1), (6, .iload_n 3, 1), (7, .invokevirtual 43, 3), (10, .i2l, 1), (11, .lastore, 1), (12, .goto 7, 3), (15, .astore 5, 2), (17, .iconst 1, 1), (18, .ireturn, 1), (19, .iconst 0, 1), (20, .ireturn, 1)]
theorem ck_la_placing : rk_chk method_10_code kc_la_placing = true := by decide +kernel
def yn_la_step : MethodName := ⟨"OrdinalRinkLaw", "step", "(LOrdinalRink;III[J)I"⟩
def kc_la_step : List (Nat × Jvm.ClassFile.Instr × Nat) := [(0, .aload 4, 2), (2, .iconst 0, 1), (3, .aload_n 0, 1), (4, .iload_n 1, 1), (5, .iload_n 2, 1), (6, .iload_n 3, 1), (7, .invokevirtual 46, 3), (10, .i2l, 1), (11, .lastore, 1), (12, .goto 7, 3), (15, .astore 5, 2), (17, .iconst 1, 1), (18, .ireturn, 1), (19, .iconst 0, 1), (20, .ireturn, 1)]
theorem ck_la_step : rk_chk method_11_code kc_la_step = true := by decide +kernel
def yn_la_needed : MethodName := ⟨"OrdinalRinkLaw", "needed", "(LOrdinalRink;III[J)I"⟩
def kc_la_needed : List (Nat × Jvm.ClassFile.Instr × Nat) := [(0, .aload 4, 2), (2, .iconst 0, 1), (3, .aload_n 0, 1), (4, .iload_n 1, 1), (5, .iload_n 2, 1), (6, .iload_n 3, 1), (7, .invokevirtual 49, 3), (10, .i2l, 1), (11, .lastore, 1), (12, .goto 11, 3), (15, .astore 5, 2), (17, .iconst 1, 1), (18, .ireturn, 1), (19, .astore 5, 2), (21, .iconst 2, 1), (22, .ireturn, 1), (23, .iconst 0, 1), (24, .ireturn, 1)]
theorem ck_la_needed : rk_chk method_12_code kc_la_needed = true := by decide +kernel
def yn_la_publish : MethodName := ⟨"OrdinalRinkLaw", "publish", "(LOrdinalRink;I[J)I"⟩
def kc_la_publish : List (Nat × Jvm.ClassFile.Instr × Nat) := [(0, .aload_n 2, 1), (1, .iconst 0, 1), (2, .aload_n 0, 1), (3, .iload_n 1, 1), (4, .invokevirtual 52, 3), (7, .i2l, 1), (8, .lastore, 1), (9, .goto 9, 3), (12, .astore_n 3, 1), (13, .iconst 1, 1), (14, .ireturn, 1), (15, .astore_n 3, 1), (16, .iconst 2, 1), (17, .ireturn, 1), (18, .iconst 0, 1), (19, .ireturn, 1)]
theorem ck_la_publish : rk_chk method_13_code kc_la_publish = true := by decide +kernel
def yn_la_total : MethodName := ⟨"OrdinalRinkLaw", "total", "(LOrdinalRink;I[J)I"⟩
def kc_la_total : List (Nat × Jvm.ClassFile.Instr × Nat) := [(0, .aload_n 2, 1), (1, .iconst 0, 1), (2, .aload_n 0, 1), (3, .iload_n 1, 1), (4, .invokevirtual 56, 3), (7, .i2l, 1), (8, .lastore, 1), (9, .goto 6, 3), (12, .astore_n 3, 1), (13, .iconst 1, 1), (14, .ireturn, 1), (15, .iconst 0, 1), (16, .ireturn, 1)]
theorem ck_la_total : rk_chk method_14_code kc_la_total = true := by decide +kernel
def yn_la_rank : MethodName := ⟨"OrdinalRinkLaw", "rank", "(LOrdinalRink;I[J)I"⟩
def kc_la_rank : List (Nat × Jvm.ClassFile.Instr × Nat) := [(0, .aload_n 2, 1), (1, .iconst 0, 1), (2, .aload_n 0, 1), (3, .iload_n 1, 1), (4, .invokevirtual 59, 3), (7, .i2l, 1), (8, .lastore, 1), (9, .goto 6, 3), (12, .astore_n 3, 1), (13, .iconst 1, 1), (14, .ireturn, 1), (15, .iconst 0, 1), (16, .ireturn, 1)]
theorem ck_la_rank : rk_chk method_15_code kc_la_rank = true := by decide +kernel
def yn_la_proof : MethodName := ⟨"OrdinalRinkLaw", "proof", "(LOrdinalRink;II[J)I"⟩
def kc_la_proof : List (Nat × Jvm.ClassFile.Instr × Nat) := [(0, .aload_n 3, 1), (1, .iconst 0, 1), (2, .aload_n 0, 1), (3, .iload_n 1, 1), (4, .iload_n 2, 1), (5, .invokevirtual 62, 3), (8, .i2l, 1), (9, .lastore, 1), (10, .goto 11, 3), (13, .astore 4, 2), (15, .iconst 1, 1), (16, .ireturn, 1), (17, .astore 4, 2), (19, .iconst 2, 1), (20, .ireturn, 1), (21, .iconst 0, 1), (22, .ireturn, 1)]
theorem ck_la_proof : rk_chk method_16_code kc_la_proof = true := by decide +kernel
def yn_la_check : MethodName := ⟨"OrdinalRinkLaw", "check", "(LOrdinalRink;I[J)I"⟩
def kc_la_check : List (Nat × Jvm.ClassFile.Instr × Nat) := [(0, .aload_n 2, 1), (1, .iconst 0, 1), (2, .aload_n 0, 1), (3, .iload_n 1, 1), (4, .invokevirtual 65, 3), (7, .i2l, 1), (8, .lastore, 1), (9, .goto 6, 3), (12, .astore_n 3, 1), (13, .iconst 1, 1), (14, .ireturn, 1), (15, .iconst 0, 1), (16, .ireturn, 1)]
theorem ck_la_check : rk_chk method_17_code kc_la_check = true := by decide +kernel
theorem lk_la_7 : Cond.methodLink "OrdinalRinkLaw" 7 yn_ri_event ∈ lw_tbl ∨ Cond.methodLinkNest "OrdinalRinkLaw" 7 yn_ri_event "OrdinalRink" ∈ lw_tbl := Or.inl (List.mem_of_getElem? (i := 341) (by decide +kernel))
theorem lk_la_15 : Cond.methodLink "OrdinalRinkLaw" 15 yn_ri_segment ∈ lw_tbl ∨ Cond.methodLinkNest "OrdinalRinkLaw" 15 yn_ri_segment "OrdinalRink" ∈ lw_tbl := Or.inl (List.mem_of_getElem? (i := 420) (by decide +kernel))
theorem lk_la_23 : Cond.methodLink "OrdinalRinkLaw" 23 yn_ri_mark ∈ lw_tbl ∨ Cond.methodLinkNest "OrdinalRinkLaw" 23 yn_ri_mark "OrdinalRink" ∈ lw_tbl := Or.inl (List.mem_of_getElem? (i := 469) (by decide +kernel))
theorem lk_la_27 : Cond.methodLink "OrdinalRinkLaw" 27 yn_ri_deduct ∈ lw_tbl ∨ Cond.methodLinkNest "OrdinalRinkLaw" 27 yn_ri_deduct "OrdinalRink" ∈ lw_tbl := Or.inl (List.mem_of_getElem? (i := 495) (by decide +kernel))
theorem lk_la_31 : Cond.methodLink "OrdinalRinkLaw" 31 yn_ri_strike ∈ lw_tbl ∨ Cond.methodLinkNest "OrdinalRinkLaw" 31 yn_ri_strike "OrdinalRink" ∈ lw_tbl := Or.inl (List.mem_of_getElem? (i := 507) (by decide +kernel))
theorem lk_la_35 : Cond.methodLink "OrdinalRinkLaw" 35 yn_ri_withdraw ∈ lw_tbl ∨ Cond.methodLinkNest "OrdinalRinkLaw" 35 yn_ri_withdraw "OrdinalRink" ∈ lw_tbl := Or.inl (List.mem_of_getElem? (i := 519) (by decide +kernel))
theorem lk_la_39 : Cond.methodLink "OrdinalRinkLaw" 39 yn_ri_ordinal ∈ lw_tbl ∨ Cond.methodLinkNest "OrdinalRinkLaw" 39 yn_ri_ordinal "OrdinalRink" ∈ lw_tbl := Or.inl (List.mem_of_getElem? (i := 536) (by decide +kernel))
theorem lk_la_43 : Cond.methodLink "OrdinalRinkLaw" 43 yn_ri_placing ∈ lw_tbl ∨ Cond.methodLinkNest "OrdinalRinkLaw" 43 yn_ri_placing "OrdinalRink" ∈ lw_tbl := Or.inl (List.mem_of_getElem? (i := 560) (by decide +kernel))
theorem lk_la_46 : Cond.methodLink "OrdinalRinkLaw" 46 yn_ri_step ∈ lw_tbl ∨ Cond.methodLinkNest "OrdinalRinkLaw" 46 yn_ri_step "OrdinalRink" ∈ lw_tbl := Or.inl (List.mem_of_getElem? (i := 609) (by decide +kernel))
theorem lk_la_49 : Cond.methodLink "OrdinalRinkLaw" 49 yn_ri_needed ∈ lw_tbl ∨ Cond.methodLinkNest "OrdinalRinkLaw" 49 yn_ri_needed "OrdinalRink" ∈ lw_tbl := Or.inl (List.mem_of_getElem? (i := 617) (by decide +kernel))
theorem lk_la_52 : Cond.methodLink "OrdinalRinkLaw" 52 yn_ri_publish ∈ lw_tbl ∨ Cond.methodLinkNest "OrdinalRinkLaw" 52 yn_ri_publish "OrdinalRink" ∈ lw_tbl := Or.inl (List.mem_of_getElem? (i := 643) (by decide +kernel))
theorem lk_la_56 : Cond.methodLink "OrdinalRinkLaw" 56 yn_ri_total ∈ lw_tbl ∨ Cond.methodLinkNest "OrdinalRinkLaw" 56 yn_ri_total "OrdinalRink" ∈ lw_tbl := Or.inl (List.mem_of_getElem? (i := 653) (by decide +kernel))
theorem lk_la_59 : Cond.methodLink "OrdinalRinkLaw" 59 yn_ri_rank ∈ lw_tbl ∨ Cond.methodLinkNest "OrdinalRinkLaw" 59 yn_ri_rank "OrdinalRink" ∈ lw_tbl := Or.inl (List.mem_of_getElem? (i := 669) (by decide +kernel))
theorem lk_la_62 : Cond.methodLink "OrdinalRinkLaw" 62 yn_ri_proof ∈ lw_tbl ∨ Cond.methodLinkNest "OrdinalRinkLaw" 62 yn_ri_proof "OrdinalRink" ∈ lw_tbl := Or.inl (List.mem_of_getElem? (i := 688) (by decide +kernel))
theorem lk_la_65 : Cond.methodLink "OrdinalRinkLaw" 65 yn_ri_check ∈ lw_tbl ∨ Cond.methodLinkNest "OrdinalRinkLaw" 65 yn_ri_check "OrdinalRink" ∈ lw_tbl := Or.inl (List.mem_of_getElem? (i := 886) (by decide +kernel))
theorem lk_la_72 : Cond.methodLink "OrdinalRinkLaw" 72 yn_la_event ∈ lw_tbl ∨ Cond.methodLinkNest "OrdinalRinkLaw" 72 yn_la_event "OrdinalRink" ∈ lw_tbl := Or.inl (List.mem_of_getElem? (i := 337) (by decide +kernel))
theorem lk_la_77 : Cond.methodLink "OrdinalRinkLaw" 77 yn_mo_event ∈ lw_tbl ∨ Cond.methodLinkNest "OrdinalRinkLaw" 77 yn_mo_event "OrdinalRink" ∈ lw_tbl := Or.inl (List.mem_of_getElem? (i := 975) (by decide +kernel))
theorem lk_la_78 : Cond.methodLink "OrdinalRinkLaw" 78 yn_mo_thrown ∈ lw_tbl ∨ Cond.methodLinkNest "OrdinalRinkLaw" 78 yn_mo_thrown "OrdinalRink" ∈ lw_tbl := Or.inl (List.mem_of_getElem? (i := 971) (by decide +kernel))
theorem lk_la_82 : Cond.methodLink "OrdinalRinkLaw" 82 yn_la_segment ∈ lw_tbl ∨ Cond.methodLinkNest "OrdinalRinkLaw" 82 yn_la_segment "OrdinalRink" ∈ lw_tbl := Or.inl (List.mem_of_getElem? (i := 415) (by decide +kernel))
theorem lk_la_85 : Cond.methodLink "OrdinalRinkLaw" 85 yn_mo_segment ∈ lw_tbl ∨ Cond.methodLinkNest "OrdinalRinkLaw" 85 yn_mo_segment "OrdinalRink" ∈ lw_tbl := Or.inl (List.mem_of_getElem? (i := 983) (by decide +kernel))
theorem lk_la_86 : Cond.methodLink "OrdinalRinkLaw" 86 yn_la_mark ∈ lw_tbl ∨ Cond.methodLinkNest "OrdinalRinkLaw" 86 yn_la_mark "OrdinalRink" ∈ lw_tbl := Or.inl (List.mem_of_getElem? (i := 466) (by decide +kernel))
theorem lk_la_89 : Cond.methodLink "OrdinalRinkLaw" 89 yn_mo_mark ∈ lw_tbl ∨ Cond.methodLinkNest "OrdinalRinkLaw" 89 yn_mo_mark "OrdinalRink" ∈ lw_tbl := Or.inl (List.mem_of_getElem? (i := 990) (by decide +kernel))
theorem lk_la_90 : Cond.methodLink "OrdinalRinkLaw" 90 yn_la_deduct ∈ lw_tbl ∨ Cond.methodLinkNest "OrdinalRinkLaw" 90 yn_la_deduct "OrdinalRink" ∈ lw_tbl := Or.inl (List.mem_of_getElem? (i := 492) (by decide +kernel))
theorem lk_la_93 : Cond.methodLink "OrdinalRinkLaw" 93 yn_mo_deduct ∈ lw_tbl ∨ Cond.methodLinkNest "OrdinalRinkLaw" 93 yn_mo_deduct "OrdinalRink" ∈ lw_tbl := Or.inl (List.mem_of_getElem? (i := 1009) (by decide +kernel))
theorem lk_la_94 : Cond.methodLink "OrdinalRinkLaw" 94 yn_la_strike ∈ lw_tbl ∨ Cond.methodLinkNest "OrdinalRinkLaw" 94 yn_la_strike "OrdinalRink" ∈ lw_tbl := Or.inl (List.mem_of_getElem? (i := 504) (by decide +kernel))
theorem lk_la_97 : Cond.methodLink "OrdinalRinkLaw" 97 yn_mo_strike ∈ lw_tbl ∨ Cond.methodLinkNest "OrdinalRinkLaw" 97 yn_mo_strike "OrdinalRink" ∈ lw_tbl := Or.inl (List.mem_of_getElem? (i := 1013) (by decide +kernel))
theorem lk_la_98 : Cond.methodLink "OrdinalRinkLaw" 98 yn_la_withdraw ∈ lw_tbl ∨ Cond.methodLinkNest "OrdinalRinkLaw" 98 yn_la_withdraw "OrdinalRink" ∈ lw_tbl := Or.inl (List.mem_of_getElem? (i := 516) (by decide +kernel))
theorem lk_la_101 : Cond.methodLink "OrdinalRinkLaw" 101 yn_mo_withdraw ∈ lw_tbl ∨ Cond.methodLinkNest "OrdinalRinkLaw" 101 yn_mo_withdraw "OrdinalRink" ∈ lw_tbl := Or.inl (List.mem_of_getElem? (i := 1021) (by decide +kernel))
theorem lk_la_102 : Cond.methodLink "OrdinalRinkLaw" 102 yn_la_ordinal ∈ lw_tbl ∨ Cond.methodLinkNest "OrdinalRinkLaw" 102 yn_la_ordinal "OrdinalRink" ∈ lw_tbl := Or.inl (List.mem_of_getElem? (i := 533) (by decide +kernel))
theorem lk_la_105 : Cond.methodLink "OrdinalRinkLaw" 105 yn_mo_ordinal ∈ lw_tbl ∨ Cond.methodLinkNest "OrdinalRinkLaw" 105 yn_mo_ordinal "OrdinalRink" ∈ lw_tbl := Or.inl (List.mem_of_getElem? (i := 1025) (by decide +kernel))
theorem lk_la_106 : Cond.methodLink "OrdinalRinkLaw" 106 yn_la_placing ∈ lw_tbl ∨ Cond.methodLinkNest "OrdinalRinkLaw" 106 yn_la_placing "OrdinalRink" ∈ lw_tbl := Or.inl (List.mem_of_getElem? (i := 557) (by decide +kernel))
theorem lk_la_108 : Cond.methodLink "OrdinalRinkLaw" 108 yn_mo_placing ∈ lw_tbl ∨ Cond.methodLinkNest "OrdinalRinkLaw" 108 yn_mo_placing "OrdinalRink" ∈ lw_tbl := Or.inl (List.mem_of_getElem? (i := 1045) (by decide +kernel))
theorem lk_la_109 : Cond.methodLink "OrdinalRinkLaw" 109 yn_la_step ∈ lw_tbl ∨ Cond.methodLinkNest "OrdinalRinkLaw" 109 yn_la_step "OrdinalRink" ∈ lw_tbl := Or.inl (List.mem_of_getElem? (i := 606) (by decide +kernel))
theorem lk_la_111 : Cond.methodLink "OrdinalRinkLaw" 111 yn_mo_step ∈ lw_tbl ∨ Cond.methodLinkNest "OrdinalRinkLaw" 111 yn_mo_step "OrdinalRink" ∈ lw_tbl := Or.inl (List.mem_of_getElem? (i := 1073) (by decide +kernel))
theorem lk_la_112 : Cond.methodLink "OrdinalRinkLaw" 112 yn_la_needed ∈ lw_tbl ∨ Cond.methodLinkNest "OrdinalRinkLaw" 112 yn_la_needed "OrdinalRink" ∈ lw_tbl := Or.inl (List.mem_of_getElem? (i := 614) (by decide +kernel))
theorem lk_la_114 : Cond.methodLink "OrdinalRinkLaw" 114 yn_mo_needed ∈ lw_tbl ∨ Cond.methodLinkNest "OrdinalRinkLaw" 114 yn_mo_needed "OrdinalRink" ∈ lw_tbl := Or.inl (List.mem_of_getElem? (i := 1077) (by decide +kernel))
theorem lk_la_115 : Cond.methodLink "OrdinalRinkLaw" 115 yn_la_publish ∈ lw_tbl ∨ Cond.methodLinkNest "OrdinalRinkLaw" 115 yn_la_publish "OrdinalRink" ∈ lw_tbl := Or.inl (List.mem_of_getElem? (i := 640) (by decide +kernel))
theorem lk_la_118 : Cond.methodLink "OrdinalRinkLaw" 118 yn_mo_publish ∈ lw_tbl ∨ Cond.methodLinkNest "OrdinalRinkLaw" 118 yn_mo_publish "OrdinalRink" ∈ lw_tbl := Or.inl (List.mem_of_getElem? (i := 1085) (by decide +kernel))
theorem lk_la_119 : Cond.methodLink "OrdinalRinkLaw" 119 yn_la_total ∈ lw_tbl ∨ Cond.methodLinkNest "OrdinalRinkLaw" 119 yn_la_total "OrdinalRink" ∈ lw_tbl := Or.inl (List.mem_of_getElem? (i := 650) (by decide +kernel))
theorem lk_la_121 : Cond.methodLink "OrdinalRinkLaw" 121 yn_mo_total ∈ lw_tbl ∨ Cond.methodLinkNest "OrdinalRinkLaw" 121 yn_mo_total "OrdinalRink" ∈ lw_tbl := Or.inl (List.mem_of_getElem? (i := 1089) (by decide +kernel))
theorem lk_la_122 : Cond.methodLink "OrdinalRinkLaw" 122 yn_la_rank ∈ lw_tbl ∨ Cond.methodLinkNest "OrdinalRinkLaw" 122 yn_la_rank "OrdinalRink" ∈ lw_tbl := Or.inl (List.mem_of_getElem? (i := 666) (by decide +kernel))
theorem lk_la_124 : Cond.methodLink "OrdinalRinkLaw" 124 yn_mo_rank ∈ lw_tbl ∨ Cond.methodLinkNest "OrdinalRinkLaw" 124 yn_mo_rank "OrdinalRink" ∈ lw_tbl := Or.inl (List.mem_of_getElem? (i := 1101) (by decide +kernel))
theorem lk_la_125 : Cond.methodLink "OrdinalRinkLaw" 125 yn_la_proof ∈ lw_tbl ∨ Cond.methodLinkNest "OrdinalRinkLaw" 125 yn_la_proof "OrdinalRink" ∈ lw_tbl := Or.inl (List.mem_of_getElem? (i := 685) (by decide +kernel))
theorem lk_la_127 : Cond.methodLink "OrdinalRinkLaw" 127 yn_mo_proof ∈ lw_tbl ∨ Cond.methodLinkNest "OrdinalRinkLaw" 127 yn_mo_proof "OrdinalRink" ∈ lw_tbl := Or.inl (List.mem_of_getElem? (i := 1113) (by decide +kernel))
theorem lk_la_128 : Cond.methodLink "OrdinalRinkLaw" 128 yn_ri_type ∈ lw_tbl ∨ Cond.methodLinkNest "OrdinalRinkLaw" 128 yn_ri_type "OrdinalRink" ∈ lw_tbl := Or.inl (List.mem_of_getElem? (i := 211) (by decide +kernel))
theorem lk_la_132 : Cond.methodLink "OrdinalRinkLaw" 132 yn_mo_type ∈ lw_tbl ∨ Cond.methodLinkNest "OrdinalRinkLaw" 132 yn_mo_type "OrdinalRink" ∈ lw_tbl := Or.inl (List.mem_of_getElem? (i := 1121) (by decide +kernel))
theorem lk_la_133 : Cond.methodLink "OrdinalRinkLaw" 133 yn_la_check ∈ lw_tbl ∨ Cond.methodLinkNest "OrdinalRinkLaw" 133 yn_la_check "OrdinalRink" ∈ lw_tbl := Or.inl (List.mem_of_getElem? (i := 883) (by decide +kernel))
theorem lk_la_135 : Cond.methodLink "OrdinalRinkLaw" 135 yn_mo_check ∈ lw_tbl ∨ Cond.methodLinkNest "OrdinalRinkLaw" 135 yn_mo_check "OrdinalRink" ∈ lw_tbl := Or.inl (List.mem_of_getElem? (i := 1125) (by decide +kernel))
theorem lk_la_136 : Cond.methodLink "OrdinalRinkLaw" 136 yn_ri_length ∈ lw_tbl ∨ Cond.methodLinkNest "OrdinalRinkLaw" 136 yn_ri_length "OrdinalRink" ∈ lw_tbl := Or.inl (List.mem_of_getElem? (i := 317) (by decide +kernel))
theorem lk_la_139 : Cond.methodLink "OrdinalRinkLaw" 139 yn_mo_length ∈ lw_tbl ∨ Cond.methodLinkNest "OrdinalRinkLaw" 139 yn_mo_length "OrdinalRink" ∈ lw_tbl := Or.inl (List.mem_of_getElem? (i := 1133) (by decide +kernel))
theorem lk_la_140 : Cond.methodLink "OrdinalRinkLaw" 140 yn_ri_charAt ∈ lw_tbl ∨ Cond.methodLinkNest "OrdinalRinkLaw" 140 yn_ri_charAt "OrdinalRink" ∈ lw_tbl := Or.inl (List.mem_of_getElem? (i := 321) (by decide +kernel))
theorem lk_la_144 : Cond.methodLink "OrdinalRinkLaw" 144 yn_mo_charAt ∈ lw_tbl ∨ Cond.methodLinkNest "OrdinalRinkLaw" 144 yn_mo_charAt "OrdinalRink" ∈ lw_tbl := Or.inl (List.mem_of_getElem? (i := 1137) (by decide +kernel))
end
section
/-! Contracts of the law's helpers -/
/-- what the law makes of an end -/
def la_k (h : List (Nat × Int)) (z : rk_Z) : Int := match z with
  | .inl _ => 0
  | .inr x => (rk_lk x h).getD (-1)
theorem zz_ri_event {M M1 : rk_M} {a b : Int} {z : rk_Z} (h : po_ri_event M a b z M1) : z = .inr 1 ∨ z = .inl none := by
  unfold po_ri_event at h
  repeat' (rcases h with h | h)
  all_goals first | exact Or.inl (h.2.1) | exact Or.inl (h.2.2.1) | exact Or.inl (h.2.2.2.1) | exact Or.inr (h.2.1) | exact Or.inr (h.2.2.1) | exact Or.inr (h.2.2.2.1)
def pr_la_event (M : rk_M) (a b : Int) : Prop := pr_ri_event M a b
def po_la_event (M : rk_M) (a b : Int) (z : rk_Z) (M' : rk_M) : Prop := ∃ z1, po_ri_event M a b z1 M' ∧ z = rk_one (la_k [(1, 1)] z1)
def pp_la_event (as : List rk_V) (M : rk_M) : Prop := as = [rk_r 2 0 0, rk_i (rk_ai as 1), rk_i (rk_ai as 2)] ∧ pr_la_event M (rk_ai as 1) (rk_ai as 2)
def qq_la_event (as : List rk_V) (M : rk_M) (z : rk_Z) (M' : rk_M) : Prop := po_la_event M (rk_ai as 1) (rk_ai as 2) z M'
set_option maxHeartbeats 1000000 in
set_option maxRecDepth 20000 in
theorem c_la_event (l : Launch) (hl : l.stackTraces = false) : rk_Sp l rk_cs yn_la_event (.codeWith yn_la_event method_3_code 4 (some .int) (rk_hs 0 6 [(9, 13, 1)])) 4 pp_la_event qq_la_event 1 := by
  refine rk_mkH (kc := kc_la_event) (ft := ft_la) (ca := [(2 * 7, (3, pp_ri_event, qq_ri_event, 1))]) (lo := 0) (hi := 6) (hs := [(9, 13, 1)]) (stops := []) (rt := 1) ck_la_event ftc_la (List.forall_mem_cons.mpr ⟨rk_ckV (n := 2) (c_ri_event l hl) ww_ri_event lk_la_7 (by decide) (by decide) (by decide) (by decide +kernel) (fun as M h => ⟨_, _, _, _, h.1, rk_rcv_ri⟩), fun _ h => absurd h List.not_mem_nil⟩) (by decide +kernel) (fun q hq as M x M1 h => (by rw [List.mem_singleton.mp hq] at h; rcases zz_ri_event (show po_ri_event M (rk_ai as 1) (rk_ai as 2) (.inr x) M1 from h) with e | e <;> first | (cases e; exact ⟨_, rfl⟩) | cases e)) (Or.inr (Or.inl ⟨rfl, rfl⟩)) (by decide +kernel) (fun as M h => by rw [h.1]; exact ⟨Nat.le_of_ble_eq_true rfl, rk_nlok rfl⟩) ?_
  intro L as M G hp hrg hG
  obtain ⟨has, hP⟩ := hp
  generalize rk_ai as 1 = a at has hP
  generalize rk_ai as 2 = b at has hP
  subst has
  refine hG 40 _ _ _ _ _ rfl ?_
  refine And.intro (And.intro rfl (show pr_ri_event M a b from hP)) (And.intro (Nat.le_of_ble_eq_true rfl) ?_)
  intro z1 M1 hq
  have hq : po_ri_event M a b z1 M1 := hq
  rcases zz_ri_event hq with rfl | rfl
  · intro q
    exact And.intro (show po_la_event M a b (rk_one 1) M1 from ⟨.inr 1, hq, rfl⟩) (Nat.le_of_ble_eq_true rfl)
  · exact And.intro (show po_la_event M a b (rk_one 0) M1 from ⟨.inl none, hq, rfl⟩) (Nat.le_of_ble_eq_true rfl)
theorem zz_ri_segment {M M1 : rk_M} {a b c : Int} {z : rk_Z} (h : po_ri_segment M a b c z M1) : z = .inr 0 ∨ z = .inr 1 ∨ z = .inr 2 ∨ z = .inl none := by
  unfold po_ri_segment at h
  repeat' (rcases h with h | h)
  all_goals first | exact Or.inl (h.2.1) | exact Or.inl (h.2.2.1) | exact Or.inl (h.2.2.2.1) | exact Or.inr (Or.inl (h.2.1)) | exact Or.inr (Or.inl (h.2.2.1)) | exact Or.inr (Or.inl (h.2.2.2.1)) | exact Or.inr (Or.inr (Or.inl (h.2.1))) | exact Or.inr (Or.inr (Or.inl (h.2.2.1))) | exact Or.inr (Or.inr (Or.inl (h.2.2.2.1))) | exact Or.inr (Or.inr (Or.inr (h.2.1))) | exact Or.inr (Or.inr (Or.inr (h.2.2.1))) | exact Or.inr (Or.inr (Or.inr (h.2.2.2.1)))
def pr_la_segment (M : rk_M) (a b c : Int) : Prop := pr_ri_segment M a b c
def po_la_segment (M : rk_M) (a b c : Int) (z : rk_Z) (M' : rk_M) : Prop := ∃ z1, po_ri_segment M a b c z1 M' ∧ z = rk_one (la_k [(0, 1), (1, 2), (2, 3)] z1)
def pp_la_segment (as : List rk_V) (M : rk_M) : Prop := as = [rk_r 2 0 0, rk_i (rk_ai as 1), rk_i (rk_ai as 2), rk_i (rk_ai as 3)] ∧ pr_la_segment M (rk_ai as 1) (rk_ai as 2) (rk_ai as 3)
def qq_la_segment (as : List rk_V) (M : rk_M) (z : rk_Z) (M' : rk_M) : Prop := po_la_segment M (rk_ai as 1) (rk_ai as 2) (rk_ai as 3) z M'
set_option maxHeartbeats 1000000 in
set_option maxRecDepth 20000 in
theorem c_la_segment (l : Launch) (hl : l.stackTraces = false) : rk_Sp l rk_cs yn_la_segment (.codeWith yn_la_segment method_4_code 5 (some .int) (rk_hs 0 7 [(10, 19, 0), (14, 13, 1), (18, 21, 2)])) 2 pp_la_segment qq_la_segment 2 := by
  refine rk_mkH (kc := kc_la_segment) (ft := ft_la) (ca := [(2 * 15, (4, pp_ri_segment, qq_ri_segment, 2))]) (lo := 0) (hi := 7) (hs := [(10, 19, 0), (14, 13, 1), (18, 21, 2)]) (stops := []) (rt := 1) ck_la_segment ftc_la (List.forall_mem_cons.mpr ⟨rk_ckV (n := 3) (c_ri_segment l hl) ww_ri_segment lk_la_15 (by decide) (by decide) (by decide) (by decide +kernel) (fun as M h => ⟨_, _, _, _, h.1, rk_rcv_ri⟩), fun _ h => absurd h List.not_mem_nil⟩) (by decide +kernel) (fun q hq as M x M1 h => (by rw [List.mem_singleton.mp hq] at h; rcases zz_ri_segment (show po_ri_segment M (rk_ai as 1) (rk_ai as 2) (rk_ai as 3) (.inr x) M1 from h) with e | e | e | e <;> first | (cases e; exact ⟨_, rfl⟩) | cases e)) (Or.inr (Or.inl ⟨rfl, rfl⟩)) (by decide +kernel) (fun as M h => by rw [h.1]; exact ⟨Nat.le_of_ble_eq_true rfl, rk_nlok rfl⟩) ?_
  intro L as M G hp hrg hG
  obtain ⟨has, hP⟩ := hp
  generalize rk_ai as 1 = a at has hP
  generalize rk_ai as 2 = b at has hP
  generalize rk_ai as 3 = c at has hP
  subst has
  refine hG 40 _ _ _ _ _ rfl ?_
  refine And.intro (And.intro rfl (show pr_ri_segment M a b c from hP)) (And.intro (Nat.le_of_ble_eq_true rfl) ?_)
  intro z1 M1 hq
  have hq : po_ri_segment M a b c z1 M1 := hq
  rcases zz_ri_segment hq with rfl | rfl | rfl | rfl
  · intro q
    exact And.intro (show po_la_segment M a b c (rk_one 1) M1 from ⟨.inr 0, hq, rfl⟩) (Nat.le_of_ble_eq_true rfl)
  · intro q
    exact And.intro (show po_la_segment M a b c (rk_one 2) M1 from ⟨.inr 1, hq, rfl⟩) (Nat.le_of_ble_eq_true rfl)
  · intro q
    exact And.intro (show po_la_segment M a b c (rk_one 3) M1 from ⟨.inr 2, hq, rfl⟩) (Nat.le_of_ble_eq_true rfl)
  · exact And.intro (show po_la_segment M a b c (rk_one 0) M1 from ⟨.inl none, hq, rfl⟩) (Nat.le_of_ble_eq_true rfl)
theorem zz_ri_mark {M M1 : rk_M} {a b c d e : Int} {z : rk_Z} (h : po_ri_mark M a b c d e z M1) : z = .inr 0 ∨ z = .inr 1 ∨ z = .inr 2 ∨ z = .inl none := by
  unfold po_ri_mark at h
  repeat' (rcases h with h | h)
  all_goals first | exact Or.inl (h.2.1) | exact Or.inl (h.2.2.1) | exact Or.inl (h.2.2.2.1) | exact Or.inr (Or.inl (h.2.1)) | exact Or.inr (Or.inl (h.2.2.1)) | exact Or.inr (Or.inl (h.2.2.2.1)) | exact Or.inr (Or.inr (Or.inl (h.2.1))) | exact Or.inr (Or.inr (Or.inl (h.2.2.1))) | exact Or.inr (Or.inr (Or.inl (h.2.2.2.1))) | exact Or.inr (Or.inr (Or.inr (h.2.1))) | exact Or.inr (Or.inr (Or.inr (h.2.2.1))) | exact Or.inr (Or.inr (Or.inr (h.2.2.2.1)))
def pr_la_mark (M : rk_M) (a b c d e : Int) : Prop := pr_ri_mark M a b c d e
def po_la_mark (M : rk_M) (a b c d e : Int) (z : rk_Z) (M' : rk_M) : Prop := ∃ z1, po_ri_mark M a b c d e z1 M' ∧ z = rk_one (la_k [(0, 1), (1, 2), (2, 3)] z1)
def pp_la_mark (as : List rk_V) (M : rk_M) : Prop := as = [rk_r 2 0 0, rk_i (rk_ai as 1), rk_i (rk_ai as 2), rk_i (rk_ai as 3), rk_i (rk_ai as 4), rk_i (rk_ai as 5)] ∧ pr_la_mark M (rk_ai as 1) (rk_ai as 2) (rk_ai as 3) (rk_ai as 4) (rk_ai as 5)
def qq_la_mark (as : List rk_V) (M : rk_M) (z : rk_Z) (M' : rk_M) : Prop := po_la_mark M (rk_ai as 1) (rk_ai as 2) (rk_ai as 3) (rk_ai as 4) (rk_ai as 5) z M'
set_option maxHeartbeats 1000000 in
set_option maxRecDepth 20000 in
theorem c_la_mark (l : Launch) (hl : l.stackTraces = false) : rk_Sp l rk_cs yn_la_mark (.codeWith yn_la_mark method_5_code 7 (some .int) (rk_hs 0 11 [(14, 19, 0), (18, 13, 1), (22, 21, 2)])) 2 pp_la_mark qq_la_mark 6 := by
  refine rk_mkH (kc := kc_la_mark) (ft := ft_la) (ca := [(2 * 23, (6, pp_ri_mark, qq_ri_mark, 6))]) (lo := 0) (hi := 11) (hs := [(14, 19, 0), (18, 13, 1), (22, 21, 2)]) (stops := []) (rt := 1) ck_la_mark ftc_la (List.forall_mem_cons.mpr ⟨rk_ckV (n := 5) (c_ri_mark l hl) ww_ri_mark lk_la_23 (by decide) (by decide) (by decide) (by decide +kernel) (fun as M h => ⟨_, _, _, _, h.1, rk_rcv_ri⟩), fun _ h => absurd h List.not_mem_nil⟩) (by decide +kernel) (fun q hq as M x M1 h => (by rw [List.mem_singleton.mp hq] at h; rcases zz_ri_mark (show po_ri_mark M (rk_ai as 1) (rk_ai as 2) (rk_ai as 3) (rk_ai as 4) (rk_ai as 5) (.inr x) M1 from h) with e | e | e | e <;> first | (cases e; exact ⟨_, rfl⟩) | cases e)) (Or.inr (Or.inl ⟨rfl, rfl⟩)) (by decide +kernel) (fun as M h => by rw [h.1]; exact ⟨Nat.le_of_ble_eq_true rfl, rk_nlok rfl⟩) ?_
  intro L as M G hp hrg hG
  obtain ⟨has, hP⟩ := hp
  generalize rk_ai as 1 = a at has hP
  generalize rk_ai as 2 = b at has hP
  generalize rk_ai as 3 = c at has hP
  generalize rk_ai as 4 = d at has hP
  generalize rk_ai as 5 = e at has hP
  subst has
  refine hG 40 _ _ _ _ _ rfl ?_
  refine And.intro (And.intro rfl (show pr_ri_mark M a b c d e from hP)) (And.intro (Nat.le_of_ble_eq_true rfl) ?_)
  intro z1 M1 hq
  have hq : po_ri_mark M a b c d e z1 M1 := hq
  rcases zz_ri_mark hq with rfl | rfl | rfl | rfl
  · intro q
    exact And.intro (show po_la_mark M a b c d e (rk_one 1) M1 from ⟨.inr 0, hq, rfl⟩) (Nat.le_of_ble_eq_true rfl)
  · intro q
    exact And.intro (show po_la_mark M a b c d e (rk_one 2) M1 from ⟨.inr 1, hq, rfl⟩) (Nat.le_of_ble_eq_true rfl)
  · intro q
    exact And.intro (show po_la_mark M a b c d e (rk_one 3) M1 from ⟨.inr 2, hq, rfl⟩) (Nat.le_of_ble_eq_true rfl)
  · exact And.intro (show po_la_mark M a b c d e (rk_one 0) M1 from ⟨.inl none, hq, rfl⟩) (Nat.le_of_ble_eq_true rfl)
theorem zz_ri_deduct {M M1 : rk_M} {a b c d : Int} {z : rk_Z} (h : po_ri_deduct M a b c d z M1) : z = .inr 0 ∨ z = .inr 1 ∨ z = .inr 2 ∨ ∃ v, z = rk_one v := by
  unfold po_ri_deduct at h
  repeat' (rcases h with h | h)
  all_goals first | exact Or.inl (h.2.1) | exact Or.inl (h.2.2.1) | exact Or.inl (h.2.2.2.1) | exact Or.inr (Or.inl (h.2.1)) | exact Or.inr (Or.inl (h.2.2.1)) | exact Or.inr (Or.inl (h.2.2.2.1)) | exact Or.inr (Or.inr (Or.inl (h.2.1))) | exact Or.inr (Or.inr (Or.inl (h.2.2.1))) | exact Or.inr (Or.inr (Or.inl (h.2.2.2.1))) | exact Or.inr (Or.inr (Or.inr (⟨_, h.2.1⟩))) | exact Or.inr (Or.inr (Or.inr (⟨_, h.2.1.choose_spec.1⟩))) | exact Or.inr (Or.inr (Or.inr (⟨_, h.2.2.1⟩))) | exact Or.inr (Or.inr (Or.inr (⟨_, h.2.2.1.choose_spec.1⟩))) | exact Or.inr (Or.inr (Or.inr (⟨_, h.2.2.2.1⟩))) | exact Or.inr (Or.inr (Or.inr (⟨_, h.2.2.2.1.choose_spec.1⟩)))
def pr_la_deduct (M : rk_M) (a b c d : Int) : Prop := pr_ri_deduct M a b c d
def po_la_deduct (M : rk_M) (a b c d : Int) (z : rk_Z) (M' : rk_M) : Prop := ∃ z1 M1, po_ri_deduct M a b c d z1 M1 ∧ z = rk_one (la_k [(0, 1), (1, 2), (2, 3)] z1) ∧ ((∃ x, z1 = .inr x ∧ M' = M1) ∨ (∃ v, z1 = rk_one v ∧ M' = rk_up M1 50 0 0 0 v))
def pp_la_deduct (as : List rk_V) (M : rk_M) : Prop := as = [rk_r 2 0 0, rk_i (rk_ai as 1), rk_i (rk_ai as 2), rk_i (rk_ai as 3), rk_i (rk_ai as 4), rk_r 50 0 0] ∧ pr_la_deduct M (rk_ai as 1) (rk_ai as 2) (rk_ai as 3) (rk_ai as 4)
def qq_la_deduct (as : List rk_V) (M : rk_M) (z : rk_Z) (M' : rk_M) : Prop := po_la_deduct M (rk_ai as 1) (rk_ai as 2) (rk_ai as 3) (rk_ai as 4) z M'
set_option maxHeartbeats 1000000 in
set_option maxRecDepth 20000 in
theorem c_la_deduct (l : Launch) (hl : l.stackTraces = false) : rk_Sp l rk_cs yn_la_deduct (.codeWith yn_la_deduct method_6_code 7 (some .int) (rk_hs 0 14 [(17, 19, 0), (21, 13, 1), (25, 21, 2)])) 2 pp_la_deduct qq_la_deduct 4 := by
  refine rk_mkH (kc := kc_la_deduct) (ft := ft_la) (ca := [(2 * 27, (5, pp_ri_deduct, qq_ri_deduct, 4))]) (lo := 0) (hi := 14) (hs := [(17, 19, 0), (21, 13, 1), (25, 21, 2)]) (stops := []) (rt := 1) ck_la_deduct ftc_la (List.forall_mem_cons.mpr ⟨rk_ckV (n := 4) (c_ri_deduct l hl) ww_ri_deduct lk_la_27 (by decide) (by decide) (by decide) (by decide +kernel) (fun as M h => ⟨_, _, _, _, h.1, rk_rcv_ri⟩), fun _ h => absurd h List.not_mem_nil⟩) (by decide +kernel) (fun q hq as M x M1 h => (by rw [List.mem_singleton.mp hq] at h; rcases zz_ri_deduct (show po_ri_deduct M (rk_ai as 1) (rk_ai as 2) (rk_ai as 3) (rk_ai as 4) (.inr x) M1 from h) with e | e | e | ⟨_, e⟩ <;> first | (cases e; exact ⟨_, rfl⟩) | cases e)) (Or.inr (Or.inl ⟨rfl, rfl⟩)) (by decide +kernel) (fun as M h => by rw [h.1]; exact ⟨Nat.le_of_ble_eq_true rfl, rk_nlok rfl⟩) ?_
  intro L as M G hp hrg hG
  obtain ⟨has, hP⟩ := hp
  generalize rk_ai as 1 = a at has hP
  generalize rk_ai as 2 = b at has hP
  generalize rk_ai as 3 = c at has hP
  generalize rk_ai as 4 = d at has hP
  subst has
  refine hG 40 _ _ _ _ _ rfl ?_
  refine And.intro (And.intro rfl (show pr_ri_deduct M a b c d from hP)) (And.intro (Nat.le_of_ble_eq_true rfl) ?_)
  intro z1 M1 hq
  have hq : po_ri_deduct M a b c d z1 M1 := hq
  rcases zz_ri_deduct hq with rfl | rfl | rfl | ⟨v, rfl⟩
  · intro q
    exact And.intro (show po_la_deduct M a b c d (rk_one 1) M1 from ⟨.inr 0, M1, hq, rfl, Or.inl ⟨0, rfl, rfl⟩⟩) (Nat.le_of_ble_eq_true rfl)
  · intro q
    exact And.intro (show po_la_deduct M a b c d (rk_one 2) M1 from ⟨.inr 1, M1, hq, rfl, Or.inl ⟨1, rfl, rfl⟩⟩) (Nat.le_of_ble_eq_true rfl)
  · intro q
    exact And.intro (show po_la_deduct M a b c d (rk_one 3) M1 from ⟨.inr 2, M1, hq, rfl, Or.inl ⟨2, rfl, rfl⟩⟩) (Nat.le_of_ble_eq_true rfl)
  · refine And.intro (And.intro (by omega) (by show _ < (1 : Int); omega)) ?_
    exact And.intro (show po_la_deduct M a b c d (rk_one 0) (rk_up M1 50 0 0 0 v) from ⟨rk_one v, M1, hq, rfl, Or.inr ⟨v, rfl, rfl⟩⟩) (Nat.le_of_ble_eq_true rfl)
theorem zz_ri_strike {M M1 : rk_M} {a b c : Int} {z : rk_Z} (h : po_ri_strike M a b c z M1) : z = .inr 0 ∨ z = .inr 2 ∨ ∃ v, z = rk_one v := by
  unfold po_ri_strike at h
  repeat' (rcases h with h | h)
  all_goals first | exact Or.inl (h.2.1) | exact Or.inl (h.2.2.1) | exact Or.inl (h.2.2.2.1) | exact Or.inr (Or.inl (h.2.1)) | exact Or.inr (Or.inl (h.2.2.1)) | exact Or.inr (Or.inl (h.2.2.2.1)) | exact Or.inr (Or.inr (⟨_, h.2.1⟩)) | exact Or.inr (Or.inr (⟨_, h.2.1.choose_spec.1⟩)) | exact Or.inr (Or.inr (⟨_, h.2.2.1⟩)) | exact Or.inr (Or.inr (⟨_, h.2.2.1.choose_spec.1⟩)) | exact Or.inr (Or.inr (⟨_, h.2.2.2.1⟩)) | exact Or.inr (Or.inr (⟨_, h.2.2.2.1.choose_spec.1⟩))
def pr_la_strike (M : rk_M) (a b c : Int) : Prop := pr_ri_strike M a b c
def po_la_strike (M : rk_M) (a b c : Int) (z : rk_Z) (M' : rk_M) : Prop := ∃ z1 M1, po_ri_strike M a b c z1 M1 ∧ z = rk_one (la_k [(0, 1), (2, 2)] z1) ∧ ((∃ x, z1 = .inr x ∧ M' = M1) ∨ (∃ v, z1 = rk_one v ∧ M' = rk_up M1 50 0 0 0 v))
def pp_la_strike (as : List rk_V) (M : rk_M) : Prop := as = [rk_r 2 0 0, rk_i (rk_ai as 1), rk_i (rk_ai as 2), rk_i (rk_ai as 3), rk_r 50 0 0] ∧ pr_la_strike M (rk_ai as 1) (rk_ai as 2) (rk_ai as 3)
def qq_la_strike (as : List rk_V) (M : rk_M) (z : rk_Z) (M' : rk_M) : Prop := po_la_strike M (rk_ai as 1) (rk_ai as 2) (rk_ai as 3) z M'
set_option maxHeartbeats 1000000 in
set_option maxRecDepth 20000 in
theorem c_la_strike (l : Launch) (hl : l.stackTraces = false) : rk_Sp l rk_cs yn_la_strike (.codeWith yn_la_strike method_7_code 6 (some .int) (rk_hs 0 12 [(15, 19, 0), (19, 21, 2)])) 2 pp_la_strike qq_la_strike 4 := by
  refine rk_mkH (kc := kc_la_strike) (ft := ft_la) (ca := [(2 * 31, (4, pp_ri_strike, qq_ri_strike, 4))]) (lo := 0) (hi := 12) (hs := [(15, 19, 0), (19, 21, 2)]) (stops := []) (rt := 1) ck_la_strike ftc_la (List.forall_mem_cons.mpr ⟨rk_ckV (n := 3) (c_ri_strike l hl) ww_ri_strike lk_la_31 (by decide) (by decide) (by decide) (by decide +kernel) (fun as M h => ⟨_, _, _, _, h.1, rk_rcv_ri⟩), fun _ h => absurd h List.not_mem_nil⟩) (by decide +kernel) (fun q hq as M x M1 h => (by rw [List.mem_singleton.mp hq] at h; rcases zz_ri_strike (show po_ri_strike M (rk_ai as 1) (rk_ai as 2) (rk_ai as 3) (.inr x) M1 from h) with e | e | ⟨_, e⟩ <;> first | (cases e; exact ⟨_, rfl⟩) | cases e)) (Or.inr (Or.inl ⟨rfl, rfl⟩)) (by decide +kernel) (fun as M h => by rw [h.1]; exact ⟨Nat.le_of_ble_eq_true rfl, rk_nlok rfl⟩) ?_
  intro L as M G hp hrg hG
  obtain ⟨has, hP⟩ := hp
  generalize rk_ai as 1 = a at has hP
  generalize rk_ai as 2 = b at has hP
  generalize rk_ai as 3 = c at has hP
  subst has
  refine hG 40 _ _ _ _ _ rfl ?_
  refine And.intro (And.intro rfl (show pr_ri_strike M a b c from hP)) (And.intro (Nat.le_of_ble_eq_true rfl) ?_)
  intro z1 M1 hq
  have hq : po_ri_strike M a b c z1 M1 := hq
  rcases zz_ri_strike hq with rfl | rfl | ⟨v, rfl⟩
  · intro q
    exact And.intro (show po_la_strike M a b c (rk_one 1) M1 from ⟨.inr 0, M1, hq, rfl, Or.inl ⟨0, rfl, rfl⟩⟩) (Nat.le_of_ble_eq_true rfl)
  · intro q
    exact And.intro (show po_la_strike M a b c (rk_one 2) M1 from ⟨.inr 2, M1, hq, rfl, Or.inl ⟨2, rfl, rfl⟩⟩) (Nat.le_of_ble_eq_true rfl)
  · refine And.intro (And.intro (by omega) (by show _ < (1 : Int); omega)) ?_
    exact And.intro (show po_la_strike M a b c (rk_one 0) (rk_up M1 50 0 0 0 v) from ⟨rk_one v, M1, hq, rfl, Or.inr ⟨v, rfl, rfl⟩⟩) (Nat.le_of_ble_eq_true rfl)
theorem zz_ri_withdraw {M M1 : rk_M} {a b : Int} {z : rk_Z} (h : po_ri_withdraw M a b z M1) : z = .inr 0 ∨ z = .inr 1 ∨ z = .inr 2 ∨ ∃ v, z = rk_one v := by
  unfold po_ri_withdraw at h
  repeat' (rcases h with h | h)
  all_goals first | exact Or.inl (h.2.1) | exact Or.inl (h.2.2.1) | exact Or.inl (h.2.2.2.1) | exact Or.inr (Or.inl (h.2.1)) | exact Or.inr (Or.inl (h.2.2.1)) | exact Or.inr (Or.inl (h.2.2.2.1)) | exact Or.inr (Or.inr (Or.inl (h.2.1))) | exact Or.inr (Or.inr (Or.inl (h.2.2.1))) | exact Or.inr (Or.inr (Or.inl (h.2.2.2.1))) | exact Or.inr (Or.inr (Or.inr (⟨_, h.2.1⟩))) | exact Or.inr (Or.inr (Or.inr (⟨_, h.2.1.choose_spec.1⟩))) | exact Or.inr (Or.inr (Or.inr (⟨_, h.2.2.1⟩))) | exact Or.inr (Or.inr (Or.inr (⟨_, h.2.2.1.choose_spec.1⟩))) | exact Or.inr (Or.inr (Or.inr (⟨_, h.2.2.2.1⟩))) | exact Or.inr (Or.inr (Or.inr (⟨_, h.2.2.2.1.choose_spec.1⟩)))
def pr_la_withdraw (M : rk_M) (a b : Int) : Prop := pr_ri_withdraw M a b
def po_la_withdraw (M : rk_M) (a b : Int) (z : rk_Z) (M' : rk_M) : Prop := ∃ z1 M1, po_ri_withdraw M a b z1 M1 ∧ z = rk_one (la_k [(0, 1), (1, 2), (2, 3)] z1) ∧ ((∃ x, z1 = .inr x ∧ M' = M1) ∨ (∃ v, z1 = rk_one v ∧ M' = rk_up M1 50 0 0 0 v))
def pp_la_withdraw (as : List rk_V) (M : rk_M) : Prop := as = [rk_r 2 0 0, rk_i (rk_ai as 1), rk_i (rk_ai as 2), rk_r 50 0 0] ∧ pr_la_withdraw M (rk_ai as 1) (rk_ai as 2)
def qq_la_withdraw (as : List rk_V) (M : rk_M) (z : rk_Z) (M' : rk_M) : Prop := po_la_withdraw M (rk_ai as 1) (rk_ai as 2) z M'
set_option maxHeartbeats 1000000 in
set_option maxRecDepth 20000 in
theorem c_la_withdraw (l : Launch) (hl : l.stackTraces = false) : rk_Sp l rk_cs yn_la_withdraw (.codeWith yn_la_withdraw method_8_code 5 (some .int) (rk_hs 0 10 [(13, 19, 0), (17, 13, 1), (21, 21, 2)])) 2 pp_la_withdraw qq_la_withdraw 2 := by
  refine rk_mkH (kc := kc_la_withdraw) (ft := ft_la) (ca := [(2 * 35, (3, pp_ri_withdraw, qq_ri_withdraw, 2))]) (lo := 0) (hi := 10) (hs := [(13, 19, 0), (17, 13, 1), (21, 21, 2)]) (stops := []) (rt := 1) ck_la_withdraw ftc_la (List.forall_mem_cons.mpr ⟨rk_ckV (n := 2) (c_ri_withdraw l hl) ww_ri_withdraw lk_la_35 (by decide) (by decide) (by decide) (by decide +kernel) (fun as M h => ⟨_, _, _, _, h.1, rk_rcv_ri⟩), fun _ h => absurd h List.not_mem_nil⟩) (by decide +kernel) (fun q hq as M x M1 h => (by rw [List.mem_singleton.mp hq] at h; rcases zz_ri_withdraw (show po_ri_withdraw M (rk_ai as 1) (rk_ai as 2) (.inr x) M1 from h) with e | e | e | ⟨_, e⟩ <;> first | (cases e; exact ⟨_, rfl⟩) | cases e)) (Or.inr (Or.inl ⟨rfl, rfl⟩)) (by decide +kernel) (fun as M h => by rw [h.1]; exact ⟨Nat.le_of_ble_eq_true rfl, rk_nlok rfl⟩) ?_
  intro L as M G hp hrg hG
  obtain ⟨has, hP⟩ := hp
  generalize rk_ai as 1 = a at has hP
  generalize rk_ai as 2 = b at has hP
  subst has
  refine hG 40 _ _ _ _ _ rfl ?_
  refine And.intro (And.intro rfl (show pr_ri_withdraw M a b from hP)) (And.intro (Nat.le_of_ble_eq_true rfl) ?_)
  intro z1 M1 hq
  have hq : po_ri_withdraw M a b z1 M1 := hq
  rcases zz_ri_withdraw hq with rfl | rfl | rfl | ⟨v, rfl⟩
  · intro q
    exact And.intro (show po_la_withdraw M a b (rk_one 1) M1 from ⟨.inr 0, M1, hq, rfl, Or.inl ⟨0, rfl, rfl⟩⟩) (Nat.le_of_ble_eq_true rfl)
  · intro q
    exact And.intro (show po_la_withdraw M a b (rk_one 2) M1 from ⟨.inr 1, M1, hq, rfl, Or.inl ⟨1, rfl, rfl⟩⟩) (Nat.le_of_ble_eq_true rfl)
  · intro q
    exact And.intro (show po_la_withdraw M a b (rk_one 3) M1 from ⟨.inr 2, M1, hq, rfl, Or.inl ⟨2, rfl, rfl⟩⟩) (Nat.le_of_ble_eq_true rfl)
  · refine And.intro (And.intro (by omega) (by show _ < (1 : Int); omega)) ?_
    exact And.intro (show po_la_withdraw M a b (rk_one 0) (rk_up M1 50 0 0 0 v) from ⟨rk_one v, M1, hq, rfl, Or.inr ⟨v, rfl, rfl⟩⟩) (Nat.le_of_ble_eq_true rfl)
theorem zz_ri_ordinal {M M1 : rk_M} {a b c : Int} {z : rk_Z} (h : po_ri_ordinal M a b c z M1) : z = .inr 0 ∨ ∃ v, z = rk_one v := by
  unfold po_ri_ordinal at h
  repeat' (rcases h with h | h)
  all_goals first | exact Or.inl (h.2.1) | exact Or.inl (h.2.2.1) | exact Or.inl (h.2.2.2.1) | exact Or.inr (⟨_, h.2.1⟩) | exact Or.inr (⟨_, h.2.1.choose_spec.1⟩) | exact Or.inr (⟨_, h.2.2.1⟩) | exact Or.inr (⟨_, h.2.2.1.choose_spec.1⟩) | exact Or.inr (⟨_, h.2.2.2.1⟩) | exact Or.inr (⟨_, h.2.2.2.1.choose_spec.1⟩)
def pr_la_ordinal (M : rk_M) (a b c : Int) : Prop := pr_ri_ordinal M a b c
def po_la_ordinal (M : rk_M) (a b c : Int) (z : rk_Z) (M' : rk_M) : Prop := ∃ z1 M1, po_ri_ordinal M a b c z1 M1 ∧ z = rk_one (la_k [(0, 1)] z1) ∧ ((∃ x, z1 = .inr x ∧ M' = M1) ∨ (∃ v, z1 = rk_one v ∧ M' = rk_up M1 50 0 0 0 v))
def pp_la_ordinal (as : List rk_V) (M : rk_M) : Prop := as = [rk_r 2 0 0, rk_i (rk_ai as 1), rk_i (rk_ai as 2), rk_i (rk_ai as 3), rk_r 50 0 0] ∧ pr_la_ordinal M (rk_ai as 1) (rk_ai as 2) (rk_ai as 3)
def qq_la_ordinal (as : List rk_V) (M : rk_M) (z : rk_Z) (M' : rk_M) : Prop := po_la_ordinal M (rk_ai as 1) (rk_ai as 2) (rk_ai as 3) z M'
set_option maxHeartbeats 1000000 in
set_option maxRecDepth 20000 in
theorem c_la_ordinal (l : Launch) (hl : l.stackTraces = false) : rk_Sp l rk_cs yn_la_ordinal (.codeWith yn_la_ordinal method_9_code 6 (some .int) (rk_hs 0 12 [(15, 19, 0)])) 5 pp_la_ordinal qq_la_ordinal 3 := by
  refine rk_mkH (kc := kc_la_ordinal) (ft := ft_la) (ca := [(2 * 39, (4, pp_ri_ordinal, qq_ri_ordinal, 3))]) (lo := 0) (hi := 12) (hs := [(15, 19, 0)]) (stops := []) (rt := 1) ck_la_ordinal ftc_la (List.forall_mem_cons.mpr ⟨rk_ckV (n := 3) (c_ri_ordinal l hl) ww_ri_ordinal lk_la_39 (by decide) (by decide) (by decide) (by decide +kernel) (fun as M h => ⟨_, _, _, _, h.1, rk_rcv_ri⟩), fun _ h => absurd h List.not_mem_nil⟩) (by decide +kernel) (fun q hq as M x M1 h => (by rw [List.mem_singleton.mp hq] at h; rcases zz_ri_ordinal (show po_ri_ordinal M (rk_ai as 1) (rk_ai as 2) (rk_ai as 3) (.inr x) M1 from h) with e | ⟨_, e⟩ <;> first | (cases e; exact ⟨_, rfl⟩) | cases e)) (Or.inr (Or.inl ⟨rfl, rfl⟩)) (by decide +kernel) (fun as M h => by rw [h.1]; exact ⟨Nat.le_of_ble_eq_true rfl, rk_nlok rfl⟩) ?_
  intro L as M G hp hrg hG
  obtain ⟨has, hP⟩ := hp
  generalize rk_ai as 1 = a at has hP
  generalize rk_ai as 2 = b at has hP
  generalize rk_ai as 3 = c at has hP
  subst has
  refine hG 40 _ _ _ _ _ rfl ?_
  refine And.intro (And.intro rfl (show pr_ri_ordinal M a b c from hP)) (And.intro (Nat.le_of_ble_eq_true rfl) ?_)
  intro z1 M1 hq
  have hq : po_ri_ordinal M a b c z1 M1 := hq
  rcases zz_ri_ordinal hq with rfl | ⟨v, rfl⟩
  · intro q
    exact And.intro (show po_la_ordinal M a b c (rk_one 1) M1 from ⟨.inr 0, M1, hq, rfl, Or.inl ⟨0, rfl, rfl⟩⟩) (Nat.le_of_ble_eq_true rfl)
  · refine And.intro (And.intro (by omega) (by show _ < (1 : Int); omega)) ?_
    exact And.intro (show po_la_ordinal M a b c (rk_one 0) (rk_up M1 50 0 0 0 v) from ⟨rk_one v, M1, hq, rfl, Or.inr ⟨v, rfl, rfl⟩⟩) (Nat.le_of_ble_eq_true rfl)
theorem zz_ri_placing {M M1 : rk_M} {a b c : Int} {z : rk_Z} (h : po_ri_placing M a b c z M1) : z = .inr 0 ∨ ∃ v, z = rk_one v := by
  unfold po_ri_placing at h
  repeat' (rcases h with h | h)
  all_goals first | exact Or.inl (h.2.1) | exact Or.inl (h.2.2.1) | exact Or.inl (h.2.2.2.1) | exact Or.inr (⟨_, h.2.1⟩) | exact Or.inr (⟨_, h.2.1.choose_spec.1⟩) | exact Or.inr (⟨_, h.2.2.1⟩) | exact Or.inr (⟨_, h.2.2.1.choose_spec.1⟩) | exact Or.inr (⟨_, h.2.2.2.1⟩) | exact Or.inr (⟨_, h.2.2.2.1.choose_spec.1⟩)
def pr_la_placing (M : rk_M) (a b c : Int) : Prop := pr_ri_placing M a b c
def po_la_placing (M : rk_M) (a b c : Int) (z : rk_Z) (M' : rk_M) : Prop := ∃ z1 M1, po_ri_placing M a b c z1 M1 ∧ z = rk_one (la_k [(0, 1)] z1) ∧ ((∃ x, z1 = .inr x ∧ M' = M1) ∨ (∃ v, z1 = rk_one v ∧ M' = rk_up M1 50 0 0 0 v))
def pp_la_placing (as : List rk_V) (M : rk_M) : Prop := as = [rk_r 2 0 0, rk_i (rk_ai as 1), rk_i (rk_ai as 2), rk_i (rk_ai as 3), rk_r 50 0 0] ∧ pr_la_placing M (rk_ai as 1) (rk_ai as 2) (rk_ai as 3)
def qq_la_placing (as : List rk_V) (M : rk_M) (z : rk_Z) (M' : rk_M) : Prop := po_la_placing M (rk_ai as 1) (rk_ai as 2) (rk_ai as 3) z M'
set_option maxHeartbeats 1000000 in
set_option maxRecDepth 20000 in
theorem c_la_placing (l : Launch) (hl : l.stackTraces = false) : rk_Sp l rk_cs yn_la_placing (.codeWith yn_la_placing method_10_code 6 (some .int) (rk_hs 0 12 [(15, 19, 0)])) 6 pp_la_placing qq_la_placing 3 := by
  refine rk_mkH (kc := kc_la_placing) (ft := ft_la) (ca := [(2 * 43, (4, pp_ri_placing, qq_ri_placing, 3))]) (lo := 0) (hi := 12) (hs := [(15, 19, 0)]) (stops := []) (rt := 1) ck_la_placing ftc_la (List.forall_mem_cons.mpr ⟨rk_ckV (n := 3) (c_ri_placing l hl) ww_ri_placing lk_la_43 (by decide) (by decide) (by decide) (by decide +kernel) (fun as M h => ⟨_, _, _, _, h.1, rk_rcv_ri⟩), fun _ h => absurd h List.not_mem_nil⟩) (by decide +kernel) (fun q hq as M x M1 h => (by rw [List.mem_singleton.mp hq] at h; rcases zz_ri_placing (show po_ri_placing M (rk_ai as 1) (rk_ai as 2) (rk_ai as 3) (.inr x) M1 from h) with e | ⟨_, e⟩ <;> first | (cases e; exact ⟨_, rfl⟩) | cases e)) (Or.inr (Or.inl ⟨rfl, rfl⟩)) (by decide +kernel) (fun as M h => by rw [h.1]; exact ⟨Nat.le_of_ble_eq_true rfl, rk_nlok rfl⟩) ?_
  intro L as M G hp hrg hG
  obtain ⟨has, hP⟩ := hp
  generalize rk_ai as 1 = a at has hP
  generalize rk_ai as 2 = b at has hP
  generalize rk_ai as 3 = c at has hP
  subst has
  refine hG 40 _ _ _ _ _ rfl ?_
  refine And.intro (And.intro rfl (show pr_ri_placing M a b c from hP)) (And.intro (Nat.le_of_ble_eq_true rfl) ?_)
  intro z1 M1 hq
  have hq : po_ri_placing M a b c z1 M1 := hq
  rcases zz_ri_placing hq with rfl | ⟨v, rfl⟩
  · intro q
    exact And.intro (show po_la_placing M a b c (rk_one 1) M1 from ⟨.inr 0, M1, hq, rfl, Or.inl ⟨0, rfl, rfl⟩⟩) (Nat.le_of_ble_eq_true rfl)
  · refine And.intro (And.intro (by omega) (by show _ < (1 : Int); omega)) ?_
    exact And.intro (show po_la_placing M a b c (rk_one 0) (rk_up M1 50 0 0 0 v) from ⟨rk_one v, M1, hq, rfl, Or.inr ⟨v, rfl, rfl⟩⟩) (Nat.le_of_ble_eq_true rfl)
theorem zz_ri_step {M M1 : rk_M} {a b c : Int} {z : rk_Z} (h : po_ri_step M a b c z M1) : z = .inr 0 ∨ ∃ v, z = rk_one v := by
  unfold po_ri_step at h
  repeat' (rcases h with h | h)
  all_goals first | exact Or.inl (h.2.1) | exact Or.inl (h.2.2.1) | exact Or.inl (h.2.2.2.1) | exact Or.inr (⟨_, h.2.1⟩) | exact Or.inr (⟨_, h.2.1.choose_spec.1⟩) | exact Or.inr (⟨_, h.2.2.1⟩) | exact Or.inr (⟨_, h.2.2.1.choose_spec.1⟩) | exact Or.inr (⟨_, h.2.2.2.1⟩) | exact Or.inr (⟨_, h.2.2.2.1.choose_spec.1⟩)
def pr_la_step (M : rk_M) (a b c : Int) : Prop := pr_ri_step M a b c
def po_la_step (M : rk_M) (a b c : Int) (z : rk_Z) (M' : rk_M) : Prop := ∃ z1 M1, po_ri_step M a b c z1 M1 ∧ z = rk_one (la_k [(0, 1)] z1) ∧ ((∃ x, z1 = .inr x ∧ M' = M1) ∨ (∃ v, z1 = rk_one v ∧ M' = rk_up M1 50 0 0 0 v))
def pp_la_step (as : List rk_V) (M : rk_M) : Prop := as = [rk_r 2 0 0, rk_i (rk_ai as 1), rk_i (rk_ai as 2), rk_i (rk_ai as 3), rk_r 50 0 0] ∧ pr_la_step M (rk_ai as 1) (rk_ai as 2) (rk_ai as 3)
def qq_la_step (as : List rk_V) (M : rk_M) (z : rk_Z) (M' : rk_M) : Prop := po_la_step M (rk_ai as 1) (rk_ai as 2) (rk_ai as 3) z M'
set_option maxHeartbeats 1000000 in
set_option maxRecDepth 20000 in
theorem c_la_step (l : Launch) (hl : l.stackTraces = false) : rk_Sp l rk_cs yn_la_step (.codeWith yn_la_step method_11_code 6 (some .int) (rk_hs 0 12 [(15, 19, 0)])) 6 pp_la_step qq_la_step 3 := by
  refine rk_mkH (kc := kc_la_step) (ft := ft_la) (ca := [(2 * 46, (4, pp_ri_step, qq_ri_step, 3))]) (lo := 0) (hi := 12) (hs := [(15, 19, 0)]) (stops := []) (rt := 1) ck_la_step ftc_la (List.forall_mem_cons.mpr ⟨rk_ckV (n := 3) (c_ri_step l hl) ww_ri_step lk_la_46 (by decide) (by decide) (by decide) (by decide +kernel) (fun as M h => ⟨_, _, _, _, h.1, rk_rcv_ri⟩), fun _ h => absurd h List.not_mem_nil⟩) (by decide +kernel) (fun q hq as M x M1 h => (by rw [List.mem_singleton.mp hq] at h; rcases zz_ri_step (show po_ri_step M (rk_ai as 1) (rk_ai as 2) (rk_ai as 3) (.inr x) M1 from h) with e | ⟨_, e⟩ <;> first | (cases e; exact ⟨_, rfl⟩) | cases e)) (Or.inr (Or.inl ⟨rfl, rfl⟩)) (by decide +kernel) (fun as M h => by rw [h.1]; exact ⟨Nat.le_of_ble_eq_true rfl, rk_nlok rfl⟩) ?_
  intro L as M G hp hrg hG
  obtain ⟨has, hP⟩ := hp
  generalize rk_ai as 1 = a at has hP
  generalize rk_ai as 2 = b at has hP
  generalize rk_ai as 3 = c at has hP
  subst has
  refine hG 40 _ _ _ _ _ rfl ?_
  refine And.intro (And.intro rfl (show pr_ri_step M a b c from hP)) (And.intro (Nat.le_of_ble_eq_true rfl) ?_)
  intro z1 M1 hq
  have hq : po_ri_step M a b c z1 M1 := hq
  rcases zz_ri_step hq with rfl | ⟨v, rfl⟩
  · intro q
    exact And.intro (show po_la_step M a b c (rk_one 1) M1 from ⟨.inr 0, M1, hq, rfl, Or.inl ⟨0, rfl, rfl⟩⟩) (Nat.le_of_ble_eq_true rfl)
  · refine And.intro (And.intro (by omega) (by show _ < (1 : Int); omega)) ?_
    exact And.intro (show po_la_step M a b c (rk_one 0) (rk_up M1 50 0 0 0 v) from ⟨rk_one v, M1, hq, rfl, Or.inr ⟨v, rfl, rfl⟩⟩) (Nat.le_of_ble_eq_true rfl)
theorem zz_ri_needed {M M1 : rk_M} {a b c : Int} {z : rk_Z} (h : po_ri_needed M a b c z M1) : z = .inr 0 ∨ z = .inr 1 ∨ ∃ v, z = rk_one v := by
  unfold po_ri_needed at h
  repeat' (rcases h with h | h)
  all_goals first | exact Or.inl (h.2.1) | exact Or.inl (h.2.2.1) | exact Or.inl (h.2.2.2.1) | exact Or.inr (Or.inl (h.2.1)) | exact Or.inr (Or.inl (h.2.2.1)) | exact Or.inr (Or.inl (h.2.2.2.1)) | exact Or.inr (Or.inr (⟨_, h.2.1⟩)) | exact Or.inr (Or.inr (⟨_, h.2.1.choose_spec.1⟩)) | exact Or.inr (Or.inr (⟨_, h.2.2.1⟩)) | exact Or.inr (Or.inr (⟨_, h.2.2.1.choose_spec.1⟩)) | exact Or.inr (Or.inr (⟨_, h.2.2.2.1⟩)) | exact Or.inr (Or.inr (⟨_, h.2.2.2.1.choose_spec.1⟩))
def pr_la_needed (M : rk_M) (a b c : Int) : Prop := pr_ri_needed M a b c
def po_la_needed (M : rk_M) (a b c : Int) (z : rk_Z) (M' : rk_M) : Prop := ∃ z1 M1, po_ri_needed M a b c z1 M1 ∧ z = rk_one (la_k [(0, 1), (1, 2)] z1) ∧ ((∃ x, z1 = .inr x ∧ M' = M1) ∨ (∃ v, z1 = rk_one v ∧ M' = rk_up M1 50 0 0 0 v))
def pp_la_needed (as : List rk_V) (M : rk_M) : Prop := as = [rk_r 2 0 0, rk_i (rk_ai as 1), rk_i (rk_ai as 2), rk_i (rk_ai as 3), rk_r 50 0 0] ∧ pr_la_needed M (rk_ai as 1) (rk_ai as 2) (rk_ai as 3)
def qq_la_needed (as : List rk_V) (M : rk_M) (z : rk_Z) (M' : rk_M) : Prop := po_la_needed M (rk_ai as 1) (rk_ai as 2) (rk_ai as 3) z M'
set_option maxHeartbeats 1000000 in
set_option maxRecDepth 20000 in
theorem c_la_needed (l : Launch) (hl : l.stackTraces = false) : rk_Sp l rk_cs yn_la_needed (.codeWith yn_la_needed method_12_code 6 (some .int) (rk_hs 0 12 [(15, 19, 0), (19, 13, 1)])) 7 pp_la_needed qq_la_needed 3 := by
  refine rk_mkH (kc := kc_la_needed) (ft := ft_la) (ca := [(2 * 49, (4, pp_ri_needed, qq_ri_needed, 3))]) (lo := 0) (hi := 12) (hs := [(15, 19, 0), (19, 13, 1)]) (stops := []) (rt := 1) ck_la_needed ftc_la (List.forall_mem_cons.mpr ⟨rk_ckV (n := 3) (c_ri_needed l hl) ww_ri_needed lk_la_49 (by decide) (by decide) (by decide) (by decide +kernel) (fun as M h => ⟨_, _, _, _, h.1, rk_rcv_ri⟩), fun _ h => absurd h List.not_mem_nil⟩) (by decide +kernel) (fun q hq as M x M1 h => (by rw [List.mem_singleton.mp hq] at h; rcases zz_ri_needed (show po_ri_needed M (rk_ai as 1) (rk_ai as 2) (rk_ai as 3) (.inr x) M1 from h) with e | e | ⟨_, e⟩ <;> first | (cases e; exact ⟨_, rfl⟩) | cases e)) (Or.inr (Or.inl ⟨rfl, rfl⟩)) (by decide +kernel) (fun as M h => by rw [h.1]; exact ⟨Nat.le_of_ble_eq_true rfl, rk_nlok rfl⟩) ?_
  intro L as M G hp hrg hG
  obtain ⟨has, hP⟩ := hp
  generalize rk_ai as 1 = a at has hP
  generalize rk_ai as 2 = b at has hP
  generalize rk_ai as 3 = c at has hP
  subst has
  refine hG 40 _ _ _ _ _ rfl ?_
  refine And.intro (And.intro rfl (show pr_ri_needed M a b c from hP)) (And.intro (Nat.le_of_ble_eq_true rfl) ?_)
  intro z1 M1 hq
  have hq : po_ri_needed M a b c z1 M1 := hq
  rcases zz_ri_needed hq with rfl | rfl | ⟨v, rfl⟩
  · intro q
    exact And.intro (show po_la_needed M a b c (rk_one 1) M1 from ⟨.inr 0, M1, hq, rfl, Or.inl ⟨0, rfl, rfl⟩⟩) (Nat.le_of_ble_eq_true rfl)
  · intro q
    exact And.intro (show po_la_needed M a b c (rk_one 2) M1 from ⟨.inr 1, M1, hq, rfl, Or.inl ⟨1, rfl, rfl⟩⟩) (Nat.le_of_ble_eq_true rfl)
  · refine And.intro (And.intro (by omega) (by show _ < (1 : Int); omega)) ?_
    exact And.intro (show po_la_needed M a b c (rk_one 0) (rk_up M1 50 0 0 0 v) from ⟨rk_one v, M1, hq, rfl, Or.inr ⟨v, rfl, rfl⟩⟩) (Nat.le_of_ble_eq_true rfl)
theorem zz_ri_publish {M M1 : rk_M} {a : Int} {z : rk_Z} (h : po_ri_publish M a z M1) : z = .inr 0 ∨ z = .inr 2 ∨ ∃ v, z = rk_one v := by
  unfold po_ri_publish at h
  repeat' (rcases h with h | h)
  all_goals first | exact Or.inl (h.2.1) | exact Or.inl (h.2.2.1) | exact Or.inl (h.2.2.2.1) | exact Or.inr (Or.inl (h.2.1)) | exact Or.inr (Or.inl (h.2.2.1)) | exact Or.inr (Or.inl (h.2.2.2.1)) | exact Or.inr (Or.inr (⟨_, h.2.1⟩)) | exact Or.inr (Or.inr (⟨_, h.2.1.choose_spec.1⟩)) | exact Or.inr (Or.inr (⟨_, h.2.2.1⟩)) | exact Or.inr (Or.inr (⟨_, h.2.2.1.choose_spec.1⟩)) | exact Or.inr (Or.inr (⟨_, h.2.2.2.1⟩)) | exact Or.inr (Or.inr (⟨_, h.2.2.2.1.choose_spec.1⟩))
def pr_la_publish (M : rk_M) (a : Int) : Prop := pr_ri_publish M a
def po_la_publish (M : rk_M) (a : Int) (z : rk_Z) (M' : rk_M) : Prop := ∃ z1 M1, po_ri_publish M a z1 M1 ∧ z = rk_one (la_k [(0, 1), (2, 2)] z1) ∧ ((∃ x, z1 = .inr x ∧ M' = M1) ∨ (∃ v, z1 = rk_one v ∧ M' = rk_up M1 50 0 0 0 v))
def pp_la_publish (as : List rk_V) (M : rk_M) : Prop := as = [rk_r 2 0 0, rk_i (rk_ai as 1), rk_r 50 0 0] ∧ pr_la_publish M (rk_ai as 1)
def qq_la_publish (as : List rk_V) (M : rk_M) (z : rk_Z) (M' : rk_M) : Prop := po_la_publish M (rk_ai as 1) z M'
set_option maxHeartbeats 1000000 in
set_option maxRecDepth 20000 in
theorem c_la_publish (l : Launch) (hl : l.stackTraces = false) : rk_Sp l rk_cs yn_la_publish (.codeWith yn_la_publish method_13_code 4 (some .int) (rk_hs 0 9 [(12, 19, 0), (15, 21, 2)])) 3 pp_la_publish qq_la_publish 3 := by
  refine rk_mkH (kc := kc_la_publish) (ft := ft_la) (ca := [(2 * 52, (2, pp_ri_publish, qq_ri_publish, 3))]) (lo := 0) (hi := 9) (hs := [(12, 19, 0), (15, 21, 2)]) (stops := []) (rt := 1) ck_la_publish ftc_la (List.forall_mem_cons.mpr ⟨rk_ckV (n := 1) (c_ri_publish l hl) ww_ri_publish lk_la_52 (by decide) (by decide) (by decide) (by decide +kernel) (fun as M h => ⟨_, _, _, _, h.1, rk_rcv_ri⟩), fun _ h => absurd h List.not_mem_nil⟩) (by decide +kernel) (fun q hq as M x M1 h => (by rw [List.mem_singleton.mp hq] at h; rcases zz_ri_publish (show po_ri_publish M (rk_ai as 1) (.inr x) M1 from h) with e | e | ⟨_, e⟩ <;> first | (cases e; exact ⟨_, rfl⟩) | cases e)) (Or.inr (Or.inl ⟨rfl, rfl⟩)) (by decide +kernel) (fun as M h => by rw [h.1]; exact ⟨Nat.le_of_ble_eq_true rfl, rk_nlok rfl⟩) ?_
  intro L as M G hp hrg hG
  obtain ⟨has, hP⟩ := hp
  generalize rk_ai as 1 = a at has hP
  subst has
  refine hG 40 _ _ _ _ _ rfl ?_
  refine And.intro (And.intro rfl (show pr_ri_publish M a from hP)) (And.intro (Nat.le_of_ble_eq_true rfl) ?_)
  intro z1 M1 hq
  have hq : po_ri_publish M a z1 M1 := hq
  rcases zz_ri_publish hq with rfl | rfl | ⟨v, rfl⟩
  · intro q
    exact And.intro (show po_la_publish M a (rk_one 1) M1 from ⟨.inr 0, M1, hq, rfl, Or.inl ⟨0, rfl, rfl⟩⟩) (Nat.le_of_ble_eq_true rfl)
  · intro q
    exact And.intro (show po_la_publish M a (rk_one 2) M1 from ⟨.inr 2, M1, hq, rfl, Or.inl ⟨2, rfl, rfl⟩⟩) (Nat.le_of_ble_eq_true rfl)
  · refine And.intro (And.intro (by omega) (by show _ < (1 : Int); omega)) ?_
    exact And.intro (show po_la_publish M a (rk_one 0) (rk_up M1 50 0 0 0 v) from ⟨rk_one v, M1, hq, rfl, Or.inr ⟨v, rfl, rfl⟩⟩) (Nat.le_of_ble_eq_true rfl)
theorem zz_ri_total {M M1 : rk_M} {a : Int} {z : rk_Z} (h : po_ri_total M a z M1) : z = .inr 0 ∨ ∃ v, z = rk_one v := by
  unfold po_ri_total at h
  repeat' (rcases h with h | h)
  all_goals first | exact Or.inl (h.2.1) | exact Or.inl (h.2.2.1) | exact Or.inl (h.2.2.2.1) | exact Or.inr (⟨_, h.2.1⟩) | exact Or.inr (⟨_, h.2.1.choose_spec.1⟩) | exact Or.inr (⟨_, h.2.2.1⟩) | exact Or.inr (⟨_, h.2.2.1.choose_spec.1⟩) | exact Or.inr (⟨_, h.2.2.2.1⟩) | exact Or.inr (⟨_, h.2.2.2.1.choose_spec.1⟩)
def pr_la_total (M : rk_M) (a : Int) : Prop := pr_ri_total M a
def po_la_total (M : rk_M) (a : Int) (z : rk_Z) (M' : rk_M) : Prop := ∃ z1 M1, po_ri_total M a z1 M1 ∧ z = rk_one (la_k [(0, 1)] z1) ∧ ((∃ x, z1 = .inr x ∧ M' = M1) ∨ (∃ v, z1 = rk_one v ∧ M' = rk_up M1 50 0 0 0 v))
def pp_la_total (as : List rk_V) (M : rk_M) : Prop := as = [rk_r 2 0 0, rk_i (rk_ai as 1), rk_r 50 0 0] ∧ pr_la_total M (rk_ai as 1)
def qq_la_total (as : List rk_V) (M : rk_M) (z : rk_Z) (M' : rk_M) : Prop := po_la_total M (rk_ai as 1) z M'
set_option maxHeartbeats 1000000 in
set_option maxRecDepth 20000 in
theorem c_la_total (l : Launch) (hl : l.stackTraces = false) : rk_Sp l rk_cs yn_la_total (.codeWith yn_la_total method_14_code 4 (some .int) (rk_hs 0 9 [(12, 19, 0)])) 6 pp_la_total qq_la_total 1 := by
  refine rk_mkH (kc := kc_la_total) (ft := ft_la) (ca := [(2 * 56, (2, pp_ri_total, qq_ri_total, 1))]) (lo := 0) (hi := 9) (hs := [(12, 19, 0)]) (stops := []) (rt := 1) ck_la_total ftc_la (List.forall_mem_cons.mpr ⟨rk_ckV (n := 1) (c_ri_total l hl) ww_ri_total lk_la_56 (by decide) (by decide) (by decide) (by decide +kernel) (fun as M h => ⟨_, _, _, _, h.1, rk_rcv_ri⟩), fun _ h => absurd h List.not_mem_nil⟩) (by decide +kernel) (fun q hq as M x M1 h => (by rw [List.mem_singleton.mp hq] at h; rcases zz_ri_total (show po_ri_total M (rk_ai as 1) (.inr x) M1 from h) with e | ⟨_, e⟩ <;> first | (cases e; exact ⟨_, rfl⟩) | cases e)) (Or.inr (Or.inl ⟨rfl, rfl⟩)) (by decide +kernel) (fun as M h => by rw [h.1]; exact ⟨Nat.le_of_ble_eq_true rfl, rk_nlok rfl⟩) ?_
  intro L as M G hp hrg hG
  obtain ⟨has, hP⟩ := hp
  generalize rk_ai as 1 = a at has hP
  subst has
  refine hG 40 _ _ _ _ _ rfl ?_
  refine And.intro (And.intro rfl (show pr_ri_total M a from hP)) (And.intro (Nat.le_of_ble_eq_true rfl) ?_)
  intro z1 M1 hq
  have hq : po_ri_total M a z1 M1 := hq
  rcases zz_ri_total hq with rfl | ⟨v, rfl⟩
  · intro q
    exact And.intro (show po_la_total M a (rk_one 1) M1 from ⟨.inr 0, M1, hq, rfl, Or.inl ⟨0, rfl, rfl⟩⟩) (Nat.le_of_ble_eq_true rfl)
  · refine And.intro (And.intro (by omega) (by show _ < (1 : Int); omega)) ?_
    exact And.intro (show po_la_total M a (rk_one 0) (rk_up M1 50 0 0 0 v) from ⟨rk_one v, M1, hq, rfl, Or.inr ⟨v, rfl, rfl⟩⟩) (Nat.le_of_ble_eq_true rfl)
theorem zz_ri_rank {M M1 : rk_M} {a : Int} {z : rk_Z} (h : po_ri_rank M a z M1) : z = .inr 0 ∨ ∃ v, z = rk_one v := by
  unfold po_ri_rank at h
  repeat' (rcases h with h | h)
  all_goals first | exact Or.inl (h.2.1) | exact Or.inl (h.2.2.1) | exact Or.inl (h.2.2.2.1) | exact Or.inr (⟨_, h.2.1⟩) | exact Or.inr (⟨_, h.2.1.choose_spec.1⟩) | exact Or.inr (⟨_, h.2.2.1⟩) | exact Or.inr (⟨_, h.2.2.1.choose_spec.1⟩) | exact Or.inr (⟨_, h.2.2.2.1⟩) | exact Or.inr (⟨_, h.2.2.2.1.choose_spec.1⟩)
def pr_la_rank (M : rk_M) (a : Int) : Prop := pr_ri_rank M a
def po_la_rank (M : rk_M) (a : Int) (z : rk_Z) (M' : rk_M) : Prop := ∃ z1 M1, po_ri_rank M a z1 M1 ∧ z = rk_one (la_k [(0, 1)] z1) ∧ ((∃ x, z1 = .inr x ∧ M' = M1) ∨ (∃ v, z1 = rk_one v ∧ M' = rk_up M1 50 0 0 0 v))
def pp_la_rank (as : List rk_V) (M : rk_M) : Prop := as = [rk_r 2 0 0, rk_i (rk_ai as 1), rk_r 50 0 0] ∧ pr_la_rank M (rk_ai as 1)
def qq_la_rank (as : List rk_V) (M : rk_M) (z : rk_Z) (M' : rk_M) : Prop := po_la_rank M (rk_ai as 1) z M'
set_option maxHeartbeats 1000000 in
set_option maxRecDepth 20000 in
theorem c_la_rank (l : Launch) (hl : l.stackTraces = false) : rk_Sp l rk_cs yn_la_rank (.codeWith yn_la_rank method_15_code 4 (some .int) (rk_hs 0 9 [(12, 19, 0)])) 6 pp_la_rank qq_la_rank 1 := by
  refine rk_mkH (kc := kc_la_rank) (ft := ft_la) (ca := [(2 * 59, (2, pp_ri_rank, qq_ri_rank, 1))]) (lo := 0) (hi := 9) (hs := [(12, 19, 0)]) (stops := []) (rt := 1) ck_la_rank ftc_la (List.forall_mem_cons.mpr ⟨rk_ckV (n := 1) (c_ri_rank l hl) ww_ri_rank lk_la_59 (by decide) (by decide) (by decide) (by decide +kernel) (fun as M h => ⟨_, _, _, _, h.1, rk_rcv_ri⟩), fun _ h => absurd h List.not_mem_nil⟩) (by decide +kernel) (fun q hq as M x M1 h => (by rw [List.mem_singleton.mp hq] at h; rcases zz_ri_rank (show po_ri_rank M (rk_ai as 1) (.inr x) M1 from h) with e | ⟨_, e⟩ <;> first | (cases e; exact ⟨_, rfl⟩) | cases e)) (Or.inr (Or.inl ⟨rfl, rfl⟩)) (by decide +kernel) (fun as M h => by rw [h.1]; exact ⟨Nat.le_of_ble_eq_true rfl, rk_nlok rfl⟩) ?_
  intro L as M G hp hrg hG
  obtain ⟨has, hP⟩ := hp
  generalize rk_ai as 1 = a at has hP
  subst has
  refine hG 40 _ _ _ _ _ rfl ?_
  refine And.intro (And.intro rfl (show pr_ri_rank M a from hP)) (And.intro (Nat.le_of_ble_eq_true rfl) ?_)
  intro z1 M1 hq
  have hq : po_ri_rank M a z1 M1 := hq
  rcases zz_ri_rank hq with rfl | ⟨v, rfl⟩
  · intro q
    exact And.intro (show po_la_rank M a (rk_one 1) M1 from ⟨.inr 0, M1, hq, rfl, Or.inl ⟨0, rfl, rfl⟩⟩) (Nat.le_of_ble_eq_true rfl)
  · refine And.intro (And.intro (by omega) (by show _ < (1 : Int); omega)) ?_
    exact And.intro (show po_la_rank M a (rk_one 0) (rk_up M1 50 0 0 0 v) from ⟨rk_one v, M1, hq, rfl, Or.inr ⟨v, rfl, rfl⟩⟩) (Nat.le_of_ble_eq_true rfl)
end
section
/-! Both sides' state: what holds between two calls -/
/-- the class holds what the reference holds -/
def cq (M : rk_M) : Prop := ∀ s, 0 ≤ s → s < 3 →
  (M 10 s 0 0 = M 36 0 0 s ∧ M 10 s 0 1 = M 37 0 0 s ∧ M 10 s 0 2 = M 38 0 0 s ∧ M 10 s 0 3 = M 30 0 0 1 ∧ M 10 s 0 4 = M 30 0 0 2) ∧
  (∀ i, 0 ≤ i → i < 10 → M 11 s 0 i = if i < M 30 0 0 1 ∧ s < M 39 0 0 i then 1 else 0) ∧ (∀ j, 0 ≤ j → j < 9 → M 12 s 0 j = M 35 0 0 (9 * s + j)) ∧
  (∀ j i, 0 ≤ j → j < 9 → 0 ≤ i → i < 10 → M 14 s j i = (if M 31 0 0 (10 * (9 * s + j) + i) ≠ 0 then M 32 0 0 (10 * (9 * s + j) + i) else -1) ∧ M 16 s j i = (if M 31 0 0 (10 * (9 * s + j) + i) ≠ 0 then M 33 0 0 (10 * (9 * s + j) + i) else -1)) ∧
  (∀ w i, 0 ≤ w → w < 2 → 0 ≤ i → i < 10 → M 18 s w i = M 34 0 0 (2 * (10 * s + i) + w))
theorem cq.a6 {M : rk_M} (h : cq M) : rs_a6 (vw M) M := by
  intro t o r i ht
  rcases ht with rfl | rfl | rfl | rfl | rfl | rfl
  · show _ = (if 0 ≤ o ∧ o < 3 ∧ r = 0 ∧ 0 ≤ i ∧ i < 5 then _ else _)
    split
    · rename_i hc
      obtain ⟨h0, h1, rfl, h2, h3⟩ := hc
      obtain ⟨⟨a0, a1, a2, a3, a4⟩, -⟩ := h o h0 h1
      by_cases e0 : i = 0
      · subst e0; rw [if_pos rfl]; exact a0
      rw [if_neg e0]
      by_cases e1 : i = 1
      · subst e1; rw [if_pos rfl]; exact a1
      rw [if_neg e1]
      by_cases e2 : i = 2
      · subst e2; rw [if_pos rfl]; exact a2
      rw [if_neg e2]
      by_cases e3 : i = 3
      · subst e3; rw [if_pos rfl]; exact a3
      rw [if_neg e3]
      obtain rfl : i = 4 := by omega
      exact a4
    · rfl
  · show _ = (if 0 ≤ o ∧ o < 3 ∧ r = 0 ∧ 0 ≤ i ∧ i < 10 then _ else _)
    split
    · rename_i hc
      obtain ⟨h0, h1, rfl, h2, h3⟩ := hc
      exact (h o h0 h1).2.1 i h2 h3
    · rfl
  · show _ = (if 0 ≤ o ∧ o < 3 ∧ r = 0 ∧ 0 ≤ i ∧ i < 9 then _ else _)
    split
    · rename_i hc
      obtain ⟨h0, h1, rfl, h2, h3⟩ := hc
      exact (h o h0 h1).2.2.1 i h2 h3
    · rfl
  · show _ = (if 0 ≤ o ∧ o < 3 ∧ 0 ≤ r ∧ r < 9 ∧ 0 ≤ i ∧ i < 10 then _ else _)
    split
    · rename_i hc
      obtain ⟨h0, h1, h2, h3, h4, h5⟩ := hc
      exact ((h o h0 h1).2.2.2.1 r i h2 h3 h4 h5).1
    · rfl
  · show _ = (if 0 ≤ o ∧ o < 3 ∧ 0 ≤ r ∧ r < 9 ∧ 0 ≤ i ∧ i < 10 then _ else _)
    split
    · rename_i hc
      obtain ⟨h0, h1, h2, h3, h4, h5⟩ := hc
      exact ((h o h0 h1).2.2.2.1 r i h2 h3 h4 h5).2
    · rfl
  · show _ = (if 0 ≤ o ∧ o < 3 ∧ 0 ≤ r ∧ r < 2 ∧ 0 ≤ i ∧ i < 10 then _ else _)
    split
    · rename_i hc
      obtain ⟨h0, h1, h2, h3, h4, h5⟩ := hc
      exact (h o h0 h1).2.2.2.2 r i h2 h3 h4 h5
    · rfl
/-- the reference's arrays are within their bounds -/
def rb (M : rk_M) : Prop := (2 ≤ M 30 0 0 1 ∧ M 30 0 0 1 ≤ 10 ∧ 3 ≤ M 30 0 0 2 ∧ M 30 0 0 2 ≤ 9) ∧
  (∀ n, 0 ≤ n → n < 270 → (M 31 0 0 n = 0 ∧ M 32 0 0 n = 0 ∧ M 33 0 0 n = 0) ∨ (M 31 0 0 n = 1 ∧ 0 ≤ M 32 0 0 n ∧ M 32 0 0 n ≤ 60 ∧ 0 ≤ M 33 0 0 n ∧ M 33 0 0 n ≤ 60)) ∧
  (∀ n, 0 ≤ n → n < 60 → 0 ≤ M 34 0 0 n ∧ M 34 0 0 n ≤ 60) ∧ (∀ n, 0 ≤ n → n < 27 → M 35 0 0 n = 0 ∨ M 35 0 0 n = 1) ∧
  (∀ s, 0 ≤ s → s < 3 → (M 36 0 0 s = 0 ∨ M 36 0 0 s = 1) ∧ (1 ≤ M 37 0 0 s ∧ M 37 0 0 s ≤ 20) ∧ (M 38 0 0 s = 0 ∨ M 38 0 0 s = 1)) ∧ (∀ k, 0 ≤ k → k < 10 → 0 ≤ M 39 0 0 k ∧ M 39 0 0 k ≤ 3)
def rq (M : rk_M) : Prop := ∀ s, 0 ≤ s → s < 3 → 3 ≤ rs_pan (vw M) s (M 30 0 0 2).toNat ∧ (M 38 0 0 s ≠ 0 → rs_com (vw M) s ≠ 0)
theorem rb.mv {M : rk_M} (h : rb M) {s : Int} (h0 : 0 ≤ s) (h1 : s < 3) : mv M s := by
  obtain ⟨⟨b1, b2, b3, b4⟩, b5, b6, b7, b8, b9⟩ := h
  refine ⟨⟨h0, h1⟩, ⟨?_, ?_, ?_, ?_, ?_, ?_⟩, ?_⟩
  · rw [vw_sk ⟨h0, h1⟩]; omega
  · rw [vw_sk ⟨h0, h1⟩]; omega
  · rw [vw_ju ⟨h0, h1⟩]; omega
  · rw [vw_ju ⟨h0, h1⟩]; omega
  · intro j k j0 j1 k0 k1
    rw [vw_f1 ⟨h0, h1⟩ ⟨j0, j1⟩ ⟨k0, k1⟩, vw_f2 ⟨h0, h1⟩ ⟨j0, j1⟩ ⟨k0, k1⟩]
    have := b5 (10 * (9 * s + j) + k) (by omega) (by omega)
    split <;> omega
  · intro k k0 k1
    rw [vw_de ⟨h0, h1⟩ (by omega) ⟨k0, k1⟩, vw_de ⟨h0, h1⟩ (by omega) ⟨k0, k1⟩]
    have := b6 (2 * (10 * s + k) + 0) (by omega) (by omega)
    have := b6 (2 * (10 * s + k) + 1) (by omega) (by omega)
    omega
  · intro n n0 n1
    have := b5 n n0 n1
    omega
theorem rb.mi {M : rk_M} (h : rb M) (hq : rq M) : mi M := by
  refine ⟨h.1, fun s h0 h1 => ⟨h.mv h0 h1, ?_, (hq s h0 h1).2, ?_, ?_⟩⟩
  · have := (hq s h0 h1).1
    omega
  · exact (h.2.2.2.2.1 s h0 h1).2.1.1
  · exact (h.2.2.2.2.1 s h0 h1).2.1.2
/-- what was typed, and the page -/
def tq (M : rk_M) : Prop := M 5 0 0 0 = M 30 0 0 14 ∧ (0 ≤ M 30 0 0 14 ∧ M 30 0 0 14 ≤ 40) ∧ (∀ i, 0 ≤ i → i < M 30 0 0 14 → M 5 0 0 (1 + i) = M 42 0 0 i) ∧ ∀ i, 0 ≤ i → i < 40 → 0 ≤ M 42 0 0 i ∧ M 42 0 0 i ≤ 127
def wq (M : rk_M) : Prop := M 4 0 0 0 = M 30 0 0 17 ∧ (0 ≤ M 30 0 0 17 ∧ M 30 0 0 17 ≤ 60) ∧ (∀ i, 0 ≤ i → i < M 30 0 0 17 → M 4 0 0 (1 + i) = M 44 0 0 i) ∧ ∀ i, 0 ≤ i → i < 60 → 0 ≤ M 44 0 0 i ∧ M 44 0 0 i ≤ 127
def St (M : rk_M) : Prop := rb M ∧ rq M ∧ cq M ∧ (M 2 0 0 4 = M 30 0 0 1 ∧ M 2 0 0 5 = M 30 0 0 2) ∧ tq M ∧ wq M
theorem St.ci {M : rk_M} (h : St M) : ci M := by
  obtain ⟨hb, hq, hc, ⟨e4, e5⟩, -, -⟩ := h
  have hm := hb.mi hq
  obtain ⟨b1, b2, b3, b4⟩ := hb.1
  refine ⟨by omega, fun s h0 h1 => ?_⟩
  obtain ⟨⟨a0, a1, a2, a3, a4⟩, -⟩ := hc s h0 h1
  obtain ⟨m1, m2, m3, m4, m5⟩ := hm.2 s h0 h1
  refine ⟨hc.a6.ok m1.2.1, by omega, by omega, fun hp => ?_, by omega, by omega⟩
  rw [hc.a6.com]
  exact m3 (by omega)
/-- nothing but scratch rows, the answer and the fault has changed -/
def sf (M M2 : rk_M) : Prop := ∀ t o r i, t ≠ 7 → t ≠ 19 → t ≠ 21 → t ≠ 23 → t ≠ 40 → t ≠ 41 → t ≠ 43 → t ≠ 50 → ¬ (t = 30 ∧ i = 0) → M2 t o r i = M t o r i
theorem vw_c6 {M M1 : rk_M} (h : ∀ t o r i, (t = 10 ∨ t = 11 ∨ t = 12 ∨ t = 14 ∨ t = 16 ∨ t = 18 ∨ (31 ≤ t ∧ t < 40)) → M1 t o r i = M t o r i) (e1 : M1 30 0 0 1 = M 30 0 0 1) (e2 : M1 30 0 0 2 = M 30 0 0 2) : vw M1 = vw M := by
  funext t o r i
  unfold vw
  rw [e1, e2, h 36 _ _ _ (by omega), h 37 _ _ _ (by omega), h 38 _ _ _ (by omega), h 39 _ _ _ (by omega), h 35 _ _ _ (by omega), h 31 _ _ _ (by omega), h 32 _ _ _ (by omega), h 33 _ _ _ (by omega), h 34 _ _ _ (by omega)]
  by_cases ht : t = 10 ∨ t = 11 ∨ t = 12 ∨ t = 14 ∨ t = 16 ∨ t = 18
  · rw [h t o r i (by omega)]
  · have n10 : t ≠ 10 := by omega
    have n11 : t ≠ 11 := by omega
    have n12 : t ≠ 12 := by omega
    have n14 : t ≠ 14 := by omega
    have n16 : t ≠ 16 := by omega
    have n18 : t ≠ 18 := by omega
    simp [n10, n11, n12, n14, n16, n18]
theorem sf.vw {M M2 : rk_M} (h : sf M M2) : vw M2 = vw M := vw_c6 (fun t o r i ht => h t o r i (by omega) (by omega) (by omega) (by omega) (by omega) (by omega) (by omega) (by omega) (by omega)) (h _ _ _ _ (by omega) (by omega) (by omega) (by omega) (by omega) (by omega) (by omega) (by omega) (by omega)) (h _ _ _ _ (by omega) (by omega) (by omega) (by omega) (by omega) (by omega) (by omega) (by omega) (by omega))
theorem sf.St {M M2 : rk_M} (h : sf M M2) (hs : St M) : St M2 := by
  have e : ∀ t o r i, t ≠ 7 → t ≠ 19 → t ≠ 21 → t ≠ 23 → t ≠ 40 → t ≠ 41 → t ≠ 43 → t ≠ 50 → ¬ (t = 30 ∧ i = 0) → M2 t o r i = M t o r i := h
  have e1 : M2 30 0 0 1 = M 30 0 0 1 := e _ _ _ _ (by omega) (by omega) (by omega) (by omega) (by omega) (by omega) (by omega) (by omega) (by omega)
  have e2 : M2 30 0 0 2 = M 30 0 0 2 := e _ _ _ _ (by omega) (by omega) (by omega) (by omega) (by omega) (by omega) (by omega) (by omega) (by omega)
  have e14 : M2 30 0 0 14 = M 30 0 0 14 := e _ _ _ _ (by omega) (by omega) (by omega) (by omega) (by omega) (by omega) (by omega) (by omega) (by omega)
  have e17 : M2 30 0 0 17 = M 30 0 0 17 := e _ _ _ _ (by omega) (by omega) (by omega) (by omega) (by omega) (by omega) (by omega) (by omega) (by omega)
  have ea : ∀ t o r i, (t = 2 ∨ t = 4 ∨ t = 5 ∨ t = 10 ∨ t = 11 ∨ t = 12 ∨ t = 14 ∨ t = 16 ∨ t = 18 ∨ (31 ≤ t ∧ t < 40) ∨ t = 42 ∨ t = 44) → M2 t o r i = M t o r i := fun t o r i ht => e t o r i (by omega) (by omega) (by omega) (by omega) (by omega) (by omega) (by omega) (by omega) (by omega)
  obtain ⟨hb, hq, hc, he, ht, hw⟩ := hs
  refine ⟨?_, ?_, ?_, ?_, ?_, ?_⟩
  · unfold rb
    rw [e1, e2]
    obtain ⟨b1, b2, b3, b4, b5, b6⟩ := hb
    refine ⟨b1, fun n n0 n1 => ?_, fun n n0 n1 => ?_, fun n n0 n1 => ?_, fun n n0 n1 => ?_, fun n n0 n1 => ?_⟩
    · rw [ea 31 _ _ _ (by omega), ea 32 _ _ _ (by omega), ea 33 _ _ _ (by omega)]; exact b2 n n0 n1
    · rw [ea 34 _ _ _ (by omega)]; exact b3 n n0 n1
    · rw [ea 35 _ _ _ (by omega)]; exact b4 n n0 n1
    · rw [ea 36 _ _ _ (by omega), ea 37 _ _ _ (by omega), ea 38 _ _ _ (by omega)]; exact b5 n n0 n1
    · rw [ea 39 _ _ _ (by omega)]; exact b6 n n0 n1
  · intro s s0 s1
    rw [h.vw, e2, ea 38 _ _ _ (by omega)]
    exact hq s s0 s1
  · intro s s0 s1
    obtain ⟨c1, c2, c3, c4, c5⟩ := hc s s0 s1
    refine ⟨?_, fun i i0 i1 => ?_, fun i i0 i1 => ?_, fun j i j0 j1 i0 i1 => ?_, fun j i j0 j1 i0 i1 => ?_⟩
    · rw [ea 10 _ _ _ (by omega), ea 10 _ _ _ (by omega), ea 10 _ _ _ (by omega), ea 10 _ _ _ (by omega), ea 10 _ _ _ (by omega), ea 36 _ _ _ (by omega), ea 37 _ _ _ (by omega), ea 38 _ _ _ (by omega), e1, e2]; exact c1
    · rw [ea 11 _ _ _ (by omega), ea 39 _ _ _ (by omega), e1]; exact c2 i i0 i1
    · rw [ea 12 _ _ _ (by omega), ea 35 _ _ _ (by omega)]; exact c3 i i0 i1
    · rw [ea 14 _ _ _ (by omega), ea 16 _ _ _ (by omega), ea 31 _ _ _ (by omega), ea 32 _ _ _ (by omega), ea 33 _ _ _ (by omega)]; exact c4 j i j0 j1 i0 i1
    · rw [ea 18 _ _ _ (by omega), ea 34 _ _ _ (by omega)]; exact c5 j i j0 j1 i0 i1
  · rw [ea 2 _ _ _ (by omega), ea 2 _ _ _ (by omega), e1, e2]; exact he
  · unfold tq
    rw [e14, ea 5 _ _ _ (by omega)]
    refine ⟨ht.1, ht.2.1, fun i i0 i1 => ?_, fun i i0 i1 => ?_⟩
    · rw [ea 5 _ _ _ (by omega), ea 42 _ _ _ (by omega)]; exact ht.2.2.1 i i0 i1
    · rw [ea 42 _ _ _ (by omega)]; exact ht.2.2.2 i i0 i1
  · unfold wq
    rw [e17, ea 4 _ _ _ (by omega)]
    refine ⟨hw.1, hw.2.1, fun i i0 i1 => ?_, fun i i0 i1 => ?_⟩
    · rw [ea 4 _ _ _ (by omega), ea 44 _ _ _ (by omega)]; exact hw.2.2.1 i i0 i1
    · rw [ea 44 _ _ _ (by omega)]; exact hw.2.2.2 i i0 i1
end
section
/-! A call on both sides keeps the state and gives one answer: what is told -/
theorem rs_com_o {N N1 : rk_M} {o : Int} (b3 : N 10 o 0 3 ≤ 10) (b4 : N 10 o 0 4 ≤ 9) (e3 : N1 10 o 0 3 = N 10 o 0 3) (e4 : N1 10 o 0 4 = N 10 o 0 4) (e11 : ∀ k, 0 ≤ k → k < 10 → N1 11 o 0 k = N 11 o 0 k) (e12 : ∀ j, 0 ≤ j → j < 9 → N1 12 o 0 j = N 12 o 0 j) (e14 : ∀ j k, 0 ≤ j → j < 9 → 0 ≤ k → k < 10 → N1 14 o j k = N 14 o j k) :
    rs_com N1 o = rs_com N o ∧ rs_pan N1 o (N1 10 o 0 4).toNat = rs_pan N o (N 10 o 0 4).toNat := by
  have hbad : ∀ j : Int, 0 ≤ j → j < 9 → rs_bad N1 o j (N 10 o 0 3).toNat = rs_bad N o j (N 10 o 0 3).toNat := fun j j0 j1 => rk_ct_congr _ (fun p hp => by rw [e11 p (by omega) (by omega), e14 j p j0 j1 (by omega) (by omega)])
  refine ⟨rs_com_congr ?_, ?_⟩
  · unfold rs_cpl
    have h1 : rs_inc N1 o (N1 10 o 0 4).toNat = rs_inc N o (N 10 o 0 4).toNat := by
      rw [e4]
      exact rk_ct_congr _ (fun p hp => by rw [e12 p (by omega) (by omega), e3, hbad p (by omega) (by omega)])
    have h2 : rs_sta N1 o (N1 10 o 0 3).toNat = rs_sta N o (N 10 o 0 3).toNat := by
      rw [e3]
      exact rk_ct_congr _ (fun p hp => by rw [e11 p (by omega) (by omega)])
    rw [h1, h2]
  · rw [e4]
    exact rk_ct_congr _ (fun p hp => by rw [e12 p (by omega) (by omega)])
/-- a segment that the reference's arrays show as before -/
theorem vw_o {M M2 : rk_M} (hb : rb M) {s : Int} (s0 : 0 ≤ s) (s1 : s < 3) (e1 : M2 30 0 0 1 = M 30 0 0 1) (e2 : M2 30 0 0 2 = M 30 0 0 2) (e39 : ∀ k, 0 ≤ k → k < 10 → (s < M2 39 0 0 k ↔ s < M 39 0 0 k)) (e35 : ∀ j, 0 ≤ j → j < 9 → M2 35 0 0 (9 * s + j) = M 35 0 0 (9 * s + j))
    (e31 : ∀ j k, 0 ≤ j → j < 9 → 0 ≤ k → k < 10 → M2 31 0 0 (10 * (9 * s + j) + k) = M 31 0 0 (10 * (9 * s + j) + k) ∧ M2 32 0 0 (10 * (9 * s + j) + k) = M 32 0 0 (10 * (9 * s + j) + k)) :
    rs_com (vw M2) s = rs_com (vw M) s ∧ rs_pan (vw M2) s (M2 30 0 0 2).toNat = rs_pan (vw M) s (M 30 0 0 2).toNat := by
  obtain ⟨b1, b2, b3, b4⟩ := hb.1
  have h := rs_com_o (N := vw M) (N1 := vw M2) (o := s) (by rw [vw_sk ⟨s0, s1⟩]; omega) (by rw [vw_ju ⟨s0, s1⟩]; omega) (by rw [vw_sk ⟨s0, s1⟩, vw_sk ⟨s0, s1⟩, e1]) (by rw [vw_ju ⟨s0, s1⟩, vw_ju ⟨s0, s1⟩, e2])
    (fun k k0 k1 => by rw [vw_st ⟨s0, s1⟩ ⟨k0, k1⟩, vw_st ⟨s0, s1⟩ ⟨k0, k1⟩, e1]; simp only [e39 k k0 k1]) (fun j j0 j1 => by rw [vw_sr ⟨s0, s1⟩ ⟨j0, j1⟩, vw_sr ⟨s0, s1⟩ ⟨j0, j1⟩, e35 j j0 j1])
    (fun j k j0 j1 k0 k1 => by rw [vw_f1 ⟨s0, s1⟩ ⟨j0, j1⟩ ⟨k0, k1⟩, vw_f1 ⟨s0, s1⟩ ⟨j0, j1⟩ ⟨k0, k1⟩, (e31 j k j0 j1 k0 k1).1, (e31 j k j0 j1 k0 k1).2])
  rw [vw_ju ⟨s0, s1⟩, vw_ju ⟨s0, s1⟩] at h
  exact h
theorem tq.of {M M2 : rk_M} (h : tq M) (e14 : M2 30 0 0 14 = M 30 0 0 14) (e5 : ∀ i, M2 5 0 0 i = M 5 0 0 i) (e42 : ∀ i, M2 42 0 0 i = M 42 0 0 i) : tq M2 := by
  unfold tq
  rw [e14, e5]
  exact ⟨h.1, h.2.1, fun i a b => by rw [e5, e42]; exact h.2.2.1 i a b, fun i a b => by rw [e42]; exact h.2.2.2 i a b⟩
theorem wq.of {M M2 : rk_M} (h : wq M) (e17 : M2 30 0 0 17 = M 30 0 0 17) (e4 : ∀ i, M2 4 0 0 i = M 4 0 0 i) (e44 : ∀ i, M2 44 0 0 i = M 44 0 0 i) : wq M2 := by
  unfold wq
  rw [e17, e4]
  exact ⟨h.1, h.2.1, fun i a b => by rw [e4, e44]; exact h.2.2.1 i a b, fun i a b => by rw [e44]; exact h.2.2.2 i a b⟩
theorem ag_segment {M M1 M2 : rk_M} {s kd fa : Int} {z1 z2 : rk_Z} (hs : St M) (h1 : po_ri_segment M s kd fa z1 M1) (h2 : po_mo_segment M1 s kd fa z2 M2) : St M2 ∧ z2 = .inl none ∧ ((z1 = .inr 0 ∧ M2 30 0 0 0 = 1) ∨ (z1 = .inr 1 ∧ M2 30 0 0 0 = 2) ∨ (z1 = .inr 2 ∧ M2 30 0 0 0 = 3) ∨ (z1 = .inl none ∧ M2 30 0 0 0 = 0)) := by
  obtain ⟨h2z, h2⟩ := h2
  have fz : ∀ (N : rk_M) (v : Int), (∀ t o r i, t ≠ 50 → N t o r i = M t o r i) → sf M (rk_up N 30 0 0 0 v) := fun N v hN t o r i _ _ _ _ _ _ _ h50 h => (rk_up_ne (by omega)).trans (hN t o r i h50)
  have hsv := hs
  obtain ⟨hb, hq, hc, he, ht, hw⟩ := hsv
  have he1 := he.1
  have he2 := he.2
  rcases h1 with ⟨a1, a2, a3⟩ | ⟨a1, a2, a3, a4⟩ | ⟨a1, a2, a3, a4, a5⟩ | ⟨a1, a2, a3, a4, a5⟩
  · subst M1
    rcases h2 with ⟨c1, c2⟩ | ⟨c1, -⟩ | ⟨c1, -⟩ | ⟨c1, -⟩
    · subst M2; exact ⟨(fz M 1 (fun _ _ _ _ _ => rfl)).St hs, h2z, Or.inl ⟨a2, rk_up_self⟩⟩
    all_goals exact absurd c1 a1
  · subst M1
    rcases h2 with ⟨c1, -⟩ | ⟨-, c1, c2⟩ | ⟨-, c1, -⟩ | ⟨-, c1, -⟩
    · exact absurd a1 c1
    · subst M2; exact ⟨(fz M 2 (fun _ _ _ _ _ => rfl)).St hs, h2z, Or.inr (Or.inl ⟨a3, rk_up_self⟩)⟩
    all_goals exact absurd c1 a2
  · subst M1
    have ep := ((hc s a1.1 a1.2).1).2.2.1
    rcases h2 with ⟨c1, -⟩ | ⟨-, c1, -⟩ | ⟨-, -, c1, c2⟩ | ⟨-, -, c1, -⟩
    · exact absurd a1 c1
    · exact absurd a2 c1
    · subst M2; exact ⟨(fz M 3 (fun _ _ _ _ _ => rfl)).St hs, h2z, Or.inr (Or.inr (Or.inl ⟨a4, rk_up_self⟩))⟩
    · exact absurd (ep.trans c1) a3
  · have ep := ((hc s a1.1 a1.2).1).2.2.1
    have e38 : M1 38 0 0 s = M 38 0 0 s := by rw [a5, rk_up_off (by omega), rk_up_off (by omega)]
    rcases h2 with ⟨c1, -⟩ | ⟨-, c1, -⟩ | ⟨-, -, c1, -⟩ | ⟨-, -, c1, c2⟩
    · exact absurd a1 c1
    · exact absurd a2 c1
    · rw [e38, ← ep] at c1; exact absurd a3 c1
    · refine ⟨?_, h2z, Or.inr (Or.inr (Or.inr ⟨a4, by rw [c2, rk_up_off (by omega), rk_up_off (by omega), rk_up_self]⟩))⟩
      have e : ∀ t o r i, ¬ ((t = 10 ∧ o = s ∧ r = 0 ∧ (i = 0 ∨ i = 1)) ∨ ((t = 36 ∨ t = 37) ∧ o = 0 ∧ r = 0 ∧ i = s)) → ¬ (t = 30 ∧ i = 0) → M2 t o r i = M t o r i := fun t o r i b1 b2 => by
        rw [c2, rk_up_ne (by omega), rk_up_ne (by omega), rk_up_ne (by omega), a5, rk_up_ne (by omega), rk_up_ne (by omega)]
      have k36 : M2 36 0 0 s = kd := by rw [c2, rk_up_off (by omega), rk_up_self]
      have k37 : M2 37 0 0 s = fa := by rw [c2, rk_up_self]
      have k10 : M2 10 s 0 0 = kd := by rw [c2, rk_up_off (by omega), rk_up_off (by omega), rk_up_off (by omega), a5, rk_up_ne (by omega), rk_up_self]
      have k11 : M2 10 s 0 1 = fa := by rw [c2, rk_up_off (by omega), rk_up_off (by omega), rk_up_off (by omega), a5, rk_up_self]
      have e1 : M2 30 0 0 1 = M 30 0 0 1 := e _ _ _ _ (by omega) (by omega)
      have e2 : M2 30 0 0 2 = M 30 0 0 2 := e _ _ _ _ (by omega) (by omega)
      refine ⟨⟨?_, fun n n0 n1 => ?_, fun n n0 n1 => ?_, fun n n0 n1 => ?_, fun n n0 n1 => ?_, fun n n0 n1 => ?_⟩, fun s' s0 s1 => ?_, fun s' s0 s1 => ?_, ?_, ?_, ?_⟩
      · rw [e1, e2]; exact hb.1
      · rw [e 31 _ _ _ (by omega) (by omega), e 32 _ _ _ (by omega) (by omega), e 33 _ _ _ (by omega) (by omega)]; exact hb.2.1 n n0 n1
      · rw [e 34 _ _ _ (by omega) (by omega)]; exact hb.2.2.1 n n0 n1
      · rw [e 35 _ _ _ (by omega) (by omega)]; exact hb.2.2.2.1 n n0 n1
      · rw [e 38 _ _ _ (by omega) (by omega)]
        have hh := hb.2.2.2.2.1 n n0 n1
        by_cases es : n = s
        · subst es; rw [k36, k37]; exact ⟨a2.1, a2.2, hh.2.2⟩
        · rw [e 36 _ _ _ (by omega) (by omega), e 37 _ _ _ (by omega) (by omega)]; exact hh
      · rw [e 39 _ _ _ (by omega) (by omega)]; exact hb.2.2.2.2.2 n n0 n1
      · have hv := vw_o (M2 := M2) hb s0 s1 e1 e2 (fun k _ _ => by rw [e 39 _ _ _ (by omega) (by omega)]) (fun j _ _ => e 35 _ _ _ (by omega) (by omega)) (fun j k _ _ _ _ => ⟨e 31 _ _ _ (by omega) (by omega), e 32 _ _ _ (by omega) (by omega)⟩)
        rw [hv.1, hv.2, e 38 _ _ _ (by omega) (by omega)]
        exact hq s' s0 s1
      · obtain ⟨⟨d0, d1, d2, d3, d4⟩, d5, d6, d7, d8⟩ := hc s' s0 s1
        refine ⟨⟨?_, ?_, ?_, ?_, ?_⟩, fun i i0 i1 => ?_, fun j j0 j1 => ?_, fun j i j0 j1 i0 i1 => ?_, fun w i w0 w1 i0 i1 => ?_⟩
        · by_cases es : s' = s
          · subst es; rw [k10, k36]
          · rw [e 10 _ _ _ (by omega) (by omega), e 36 _ _ _ (by omega) (by omega)]; exact d0
        · by_cases es : s' = s
          · subst es; rw [k11, k37]
          · rw [e 10 _ _ _ (by omega) (by omega), e 37 _ _ _ (by omega) (by omega)]; exact d1
        · rw [e 10 _ _ _ (by omega) (by omega), e 38 _ _ _ (by omega) (by omega)]; exact d2
        · rw [e 10 _ _ _ (by omega) (by omega), e1]; exact d3
        · rw [e 10 _ _ _ (by omega) (by omega), e2]; exact d4
        · rw [e 11 _ _ _ (by omega) (by omega), e1, e 39 _ _ _ (by omega) (by omega)]; exact d5 i i0 i1
        · rw [e 12 _ _ _ (by omega) (by omega), e 35 _ _ _ (by omega) (by omega)]; exact d6 j j0 j1
        · rw [e 14 _ _ _ (by omega) (by omega), e 16 _ _ _ (by omega) (by omega), e 31 _ _ _ (by omega) (by omega), e 32 _ _ _ (by omega) (by omega), e 33 _ _ _ (by omega) (by omega)]; exact d7 j i j0 j1 i0 i1
        · rw [e 18 _ _ _ (by omega) (by omega), e 34 _ _ _ (by omega) (by omega)]; exact d8 w i w0 w1 i0 i1
      · rw [e 2 _ _ _ (by omega) (by omega), e 2 _ _ _ (by omega) (by omega), e1, e2]; exact he
      · exact ht.of (e _ _ _ _ (by omega) (by omega)) (fun i => e _ _ _ _ (by omega) (by omega)) (fun i => e _ _ _ _ (by omega) (by omega))
      · exact hw.of (e _ _ _ _ (by omega) (by omega)) (fun i => e _ _ _ _ (by omega) (by omega)) (fun i => e _ _ _ _ (by omega) (by omega))
theorem ag_mark {M M1 M2 : rk_M} {s j k f g : Int} {z1 z2 : rk_Z} (hs : St M) (h1 : po_ri_mark M s j k f g z1 M1) (h2 : po_mo_mark M1 s j k f g z2 M2) : St M2 ∧ z2 = .inl none ∧ ((z1 = .inr 0 ∧ M2 30 0 0 0 = 1) ∨ (z1 = .inr 1 ∧ M2 30 0 0 0 = 2) ∨ (z1 = .inr 2 ∧ M2 30 0 0 0 = 3) ∨ (z1 = .inl none ∧ M2 30 0 0 0 = 0)) := by
  obtain ⟨h2z, h2⟩ := h2
  have fz : ∀ (N : rk_M) (v : Int), (∀ t o r i, t ≠ 50 → N t o r i = M t o r i) → sf M (rk_up N 30 0 0 0 v) := fun N v hN t o r i _ _ _ _ _ _ _ h50 h => (rk_up_ne (by omega)).trans (hN t o r i h50)
  have hsv := hs
  obtain ⟨hb, hq, hc, he, ht, hw⟩ := hsv
  have he1 := he.1
  have he2 := he.2
  rcases h1 with ⟨a1, a2, a3⟩ | ⟨a1, a2, a3, a4⟩ | ⟨a1, a2, a3, a4, a5⟩ | ⟨a1, a2, a3, a4, a5⟩
  · subst M1
    rcases h2 with ⟨c1, c2⟩ | ⟨c1, -⟩ | ⟨c1, -⟩ | ⟨c1, -⟩
    · subst M2; exact ⟨(fz M 1 (fun _ _ _ _ _ => rfl)).St hs, h2z, Or.inl ⟨a2, rk_up_self⟩⟩
    all_goals exfalso; omega
  · subst M1
    rcases h2 with ⟨c1, -⟩ | ⟨-, c1, c2⟩ | ⟨-, c1, -⟩ | ⟨-, c1, -⟩
    · exfalso; omega
    · subst M2; exact ⟨(fz M 2 (fun _ _ _ _ _ => rfl)).St hs, h2z, Or.inr (Or.inl ⟨a3, rk_up_self⟩)⟩
    all_goals exact absurd c1 a2
  · subst M1
    have ep := ((hc s a1.1.1 a1.1.2).1).2.2.1
    rcases h2 with ⟨c1, -⟩ | ⟨-, c1, -⟩ | ⟨-, -, c1, c2⟩ | ⟨-, -, c1, -⟩
    · exfalso; omega
    · exact absurd a2 c1
    · subst M2; exact ⟨(fz M 3 (fun _ _ _ _ _ => rfl)).St hs, h2z, Or.inr (Or.inr (Or.inl ⟨a4, rk_up_self⟩))⟩
    · exact absurd (ep.trans c1) a3
  · have ep := ((hc s a1.1.1 a1.1.2).1).2.2.1
    have e38 : M1 38 0 0 s = M 38 0 0 s := by rw [a5, rk_up_off (by omega), rk_up_off (by omega)]
    have e301 : M1 30 0 0 1 = M 30 0 0 1 := by rw [a5, rk_up_off (by omega), rk_up_off (by omega)]
    have e302 : M1 30 0 0 2 = M 30 0 0 2 := by rw [a5, rk_up_off (by omega), rk_up_off (by omega)]
    have hb1 := hb.1
    rcases h2 with ⟨c1, -⟩ | ⟨-, c1, -⟩ | ⟨-, -, c1, -⟩ | ⟨-, -, c1, c2⟩
    · exfalso; omega
    · exact absurd a2 c1
    · rw [e38, ← ep] at c1; exact absurd a3 c1
    · refine ⟨?_, h2z, Or.inr (Or.inr (Or.inr ⟨a4, by rw [c2, mo_mk_o (by omega), rk_up_self]⟩))⟩
      have e : ∀ t o r i, ¬ (((t = 14 ∨ t = 16) ∧ o = s ∧ r = j ∧ i = k) ∨ ((t = 31 ∨ t = 32 ∨ t = 33) ∧ o = 0 ∧ r = 0 ∧ i = 10 * (9 * s + j) + k)) → ¬ (t = 30 ∧ i = 0) → M2 t o r i = M t o r i := fun t o r i b1 b2 => by
        rw [c2, mo_mk_o (by omega), rk_up_ne (by omega), a5, rk_up_ne (by omega), rk_up_ne (by omega)]
      have k31 : M2 31 0 0 (10 * (9 * s + j) + k) = 1 := by rw [c2, mo_mk_31]
      have k32 : M2 32 0 0 (10 * (9 * s + j) + k) = f := by rw [c2, mo_mk_32]
      have k33 : M2 33 0 0 (10 * (9 * s + j) + k) = g := by rw [c2, mo_mk_33]
      have k14 : M2 14 s j k = f := by rw [c2, mo_mk_o (by omega), rk_up_off (by omega), a5, rk_up_off (by omega), rk_up_self]
      have k16 : M2 16 s j k = g := by rw [c2, mo_mk_o (by omega), rk_up_off (by omega), a5, rk_up_self]
      have e1 : M2 30 0 0 1 = M 30 0 0 1 := e _ _ _ _ (by omega) (by omega)
      have e2 : M2 30 0 0 2 = M 30 0 0 2 := e _ _ _ _ (by omega) (by omega)
      refine ⟨⟨?_, fun n n0 n1 => ?_, fun n n0 n1 => ?_, fun n n0 n1 => ?_, fun n n0 n1 => ?_, fun n n0 n1 => ?_⟩, fun s' s0 s1 => ?_, fun s' s0 s1 => ?_, ?_, ?_, ?_⟩
      · rw [e1, e2]; exact hb.1
      · by_cases es : n = 10 * (9 * s + j) + k
        · subst es; rw [k31, k32, k33]; exact Or.inr ⟨rfl, a2.1.1, a2.1.2, a2.2.1, a2.2.2⟩
        · rw [e 31 _ _ _ (by omega) (by omega), e 32 _ _ _ (by omega) (by omega), e 33 _ _ _ (by omega) (by omega)]; exact hb.2.1 n n0 n1
      · rw [e 34 _ _ _ (by omega) (by omega)]; exact hb.2.2.1 n n0 n1
      · rw [e 35 _ _ _ (by omega) (by omega)]; exact hb.2.2.2.1 n n0 n1
      · rw [e 36 _ _ _ (by omega) (by omega), e 37 _ _ _ (by omega) (by omega), e 38 _ _ _ (by omega) (by omega)]; exact hb.2.2.2.2.1 n n0 n1
      · rw [e 39 _ _ _ (by omega) (by omega)]; exact hb.2.2.2.2.2 n n0 n1
      · by_cases es : s' = s
        · subst es
          refine ⟨?_, fun hp => ?_⟩
          · have hp : rs_pan (vw M2) s' (M2 30 0 0 2).toNat = rs_pan (vw M) s' (M 30 0 0 2).toNat := by
              rw [e2]
              exact rk_ct_congr _ (fun p hp => by rw [vw_sr ⟨s0, s1⟩ (by omega), vw_sr ⟨s0, s1⟩ (by omega), e 35 _ _ _ (by omega) (by omega)])
            rw [hp]
            exact (hq s' s0 s1).1
          · rw [e 38 _ _ _ (by omega) (by omega), ← ep] at hp
            exact absurd a3 hp
        · have hv := vw_o (M2 := M2) hb s0 s1 e1 e2 (fun k _ _ => by rw [e 39 _ _ _ (by omega) (by omega)]) (fun j _ _ => e 35 _ _ _ (by omega) (by omega)) (fun j' k' _ _ _ _ => ⟨e 31 _ _ _ (by omega) (by omega), e 32 _ _ _ (by omega) (by omega)⟩)
          rw [hv.1, hv.2, e 38 _ _ _ (by omega) (by omega)]
          exact hq s' s0 s1
      · obtain ⟨⟨d0, d1, d2, d3, d4⟩, d5, d6, d7, d8⟩ := hc s' s0 s1
        refine ⟨⟨?_, ?_, ?_, ?_, ?_⟩, fun i i0 i1 => ?_, fun j' j0 j1 => ?_, fun j' i j0 j1 i0 i1 => ?_, fun w i w0 w1 i0 i1 => ?_⟩
        · rw [e 10 _ _ _ (by omega) (by omega), e 36 _ _ _ (by omega) (by omega)]; exact d0
        · rw [e 10 _ _ _ (by omega) (by omega), e 37 _ _ _ (by omega) (by omega)]; exact d1
        · rw [e 10 _ _ _ (by omega) (by omega), e 38 _ _ _ (by omega) (by omega)]; exact d2
        · rw [e 10 _ _ _ (by omega) (by omega), e1]; exact d3
        · rw [e 10 _ _ _ (by omega) (by omega), e2]; exact d4
        · rw [e 11 _ _ _ (by omega) (by omega), e1, e 39 _ _ _ (by omega) (by omega)]; exact d5 i i0 i1
        · rw [e 12 _ _ _ (by omega) (by omega), e 35 _ _ _ (by omega) (by omega)]; exact d6 j' j0 j1
        · have ho := d7 j' i j0 j1 i0 i1
          by_cases es : s' = s ∧ j' = j ∧ i = k
          · obtain ⟨rfl, rfl, rfl⟩ := es
            rw [k31, k32, k33, k14, k16, if_pos (by decide), if_pos (by decide)]; exact ⟨rfl, rfl⟩
          · rw [e 14 _ _ _ (by omega) (by omega), e 16 _ _ _ (by omega) (by omega), e 31 _ _ _ (by omega) (by omega), e 32 _ _ _ (by omega) (by omega), e 33 _ _ _ (by omega) (by omega)]; exact ho
        · rw [e 18 _ _ _ (by omega) (by omega), e 34 _ _ _ (by omega) (by omega)]; exact d8 w i w0 w1 i0 i1
      · rw [e 2 _ _ _ (by omega) (by omega), e 2 _ _ _ (by omega) (by omega), e1, e2]; exact he
      · exact ht.of (e _ _ _ _ (by omega) (by omega)) (fun i => e _ _ _ _ (by omega) (by omega)) (fun i => e _ _ _ _ (by omega) (by omega))
      · exact hw.of (e _ _ _ _ (by omega) (by omega)) (fun i => e _ _ _ _ (by omega) (by omega)) (fun i => e _ _ _ _ (by omega) (by omega))
theorem ag_deduct {M M1 N M2 : rk_M} {s k w t : Int} {z1 z2 : rk_Z} (hs : St M) (h1 : po_ri_deduct M s k w t z1 M1) (hN : ∀ t o r i, t ≠ 50 → N t o r i = M1 t o r i) (h2 : po_mo_deduct N s k w t z2 M2) : St M2 ∧ ((z1 = .inr 0 ∧ M2 30 0 0 0 = 1) ∨ (z1 = .inr 1 ∧ M2 30 0 0 0 = 2) ∨ (z1 = .inr 2 ∧ M2 30 0 0 0 = 3) ∨ (z1 = z2 ∧ M2 30 0 0 0 = 0)) ∧ ∃ v, z2 = rk_one v := by
  have fz : ∀ (N : rk_M) (v : Int), (∀ t o r i, t ≠ 50 → N t o r i = M t o r i) → sf M (rk_up N 30 0 0 0 v) := fun N v hN t o r i _ _ _ _ _ _ _ h50 h => (rk_up_ne (by omega)).trans (hN t o r i h50)
  have hsv := hs
  obtain ⟨hb, hq, hc, he, ht, hw⟩ := hsv
  have he1 := he.1
  have he2 := he.2
  have e301 : N 30 0 0 1 = M1 30 0 0 1 := hN _ _ _ _ (by omega)
  have e38 : N 38 0 0 s = M1 38 0 0 s := hN _ _ _ _ (by omega)
  rcases h1 with ⟨a1, a2, a3⟩ | ⟨a1, a2, a3, a4⟩ | ⟨a1, a2, a3, a4, a5⟩ | ⟨a1, a2, a3, a4, a5⟩
  · subst M1
    rcases h2 with ⟨c1, c3, c2⟩ | ⟨c1, -⟩ | ⟨c1, -⟩ | ⟨c1, -⟩
    · subst M2; exact ⟨(fz N 1 hN).St hs, Or.inl ⟨a2, rk_up_self⟩, _, c3⟩
    all_goals exfalso; omega
  · subst M1
    rcases h2 with ⟨c1, -⟩ | ⟨-, c1, c3, c2⟩ | ⟨-, c1, -⟩ | ⟨-, c1, -⟩
    · exfalso; omega
    · subst M2; exact ⟨(fz N 2 hN).St hs, Or.inr (Or.inl ⟨a3, rk_up_self⟩), _, c3⟩
    all_goals exact absurd c1 a2
  · subst M1
    have ep := ((hc s a1.1.1 a1.1.2).1).2.2.1
    rcases h2 with ⟨c1, -⟩ | ⟨-, c1, -⟩ | ⟨-, -, c1, c3, c2⟩ | ⟨-, -, c1, -⟩
    · exfalso; omega
    · exact absurd a2 c1
    · subst M2; exact ⟨(fz N 3 hN).St hs, Or.inr (Or.inr (Or.inl ⟨a4, rk_up_self⟩)), _, c3⟩
    · exfalso; omega
  · have ep := ((hc s a1.1.1 a1.1.2).1).2.2.1
    have f38 : M1 38 0 0 s = M 38 0 0 s := by rw [a5, rk_up_off (by omega)]
    have f301 : M1 30 0 0 1 = M 30 0 0 1 := by rw [a5, rk_up_off (by omega)]
    have hb1 := hb.1
    have eo := (hc s a1.1.1 a1.1.2).2.2.2.2 w k (by omega) (by omega) a1.2.1.1 (by omega)
    have f34 : N 34 0 0 (2 * (10 * s + k) + w) = M 34 0 0 (2 * (10 * s + k) + w) := by rw [hN _ _ _ _ (by omega), a5, rk_up_off (by omega)]
    rcases h2 with ⟨c1, -⟩ | ⟨-, c1, -⟩ | ⟨-, -, c1, -⟩ | ⟨-, -, c1, c3, c2⟩
    · exfalso; omega
    · exact absurd a2 c1
    · exfalso; omega
    · refine ⟨?_, Or.inr (Or.inr (Or.inr ⟨by rw [a4, c3, f34, eo], by rw [c2, rk_up_off (by omega), rk_up_self]⟩)), _, c3⟩
      have e : ∀ t' o r i, ¬ ((t' = 18 ∧ o = s ∧ r = w ∧ i = k) ∨ (t' = 34 ∧ o = 0 ∧ r = 0 ∧ i = 2 * (10 * s + k) + w) ∨ t' = 50) → ¬ (t' = 30 ∧ i = 0) → M2 t' o r i = M t' o r i := fun t' o r i b1 b2 => by
        rw [c2, rk_up_ne (by omega), rk_up_ne (by omega), hN _ _ _ _ (by omega), a5, rk_up_ne (by omega)]
      have k34 : M2 34 0 0 (2 * (10 * s + k) + w) = t := by rw [c2, rk_up_self]
      have k18 : M2 18 s w k = t := by rw [c2, rk_up_off (by omega), rk_up_off (by omega), hN _ _ _ _ (by omega), a5, rk_up_self]
      have e1 : M2 30 0 0 1 = M 30 0 0 1 := e _ _ _ _ (by omega) (by omega)
      have e2 : M2 30 0 0 2 = M 30 0 0 2 := e _ _ _ _ (by omega) (by omega)
      refine ⟨⟨?_, fun n n0 n1 => ?_, fun n n0 n1 => ?_, fun n n0 n1 => ?_, fun n n0 n1 => ?_, fun n n0 n1 => ?_⟩, fun s' s0 s1 => ?_, fun s' s0 s1 => ?_, ?_, ?_, ?_⟩
      · rw [e1, e2]; exact hb.1
      · rw [e 31 _ _ _ (by omega) (by omega), e 32 _ _ _ (by omega) (by omega), e 33 _ _ _ (by omega) (by omega)]; exact hb.2.1 n n0 n1
      · by_cases es : n = 2 * (10 * s + k) + w
        · subst es; rw [k34]; exact a2
        · rw [e 34 _ _ _ (by omega) (by omega)]; exact hb.2.2.1 n n0 n1
      · rw [e 35 _ _ _ (by omega) (by omega)]; exact hb.2.2.2.1 n n0 n1
      · rw [e 36 _ _ _ (by omega) (by omega), e 37 _ _ _ (by omega) (by omega), e 38 _ _ _ (by omega) (by omega)]; exact hb.2.2.2.2.1 n n0 n1
      · rw [e 39 _ _ _ (by omega) (by omega)]; exact hb.2.2.2.2.2 n n0 n1
      · have hv := vw_o (M2 := M2) hb s0 s1 e1 e2 (fun k _ _ => by rw [e 39 _ _ _ (by omega) (by omega)]) (fun j _ _ => e 35 _ _ _ (by omega) (by omega)) (fun j k _ _ _ _ => ⟨e 31 _ _ _ (by omega) (by omega), e 32 _ _ _ (by omega) (by omega)⟩)
        rw [hv.1, hv.2, e 38 _ _ _ (by omega) (by omega)]
        exact hq s' s0 s1
      · obtain ⟨⟨d0, d1, d2, d3, d4⟩, d5, d6, d7, d8⟩ := hc s' s0 s1
        refine ⟨⟨?_, ?_, ?_, ?_, ?_⟩, fun i i0 i1 => ?_, fun j j0 j1 => ?_, fun j i j0 j1 i0 i1 => ?_, fun w' i w0 w1 i0 i1 => ?_⟩
        · rw [e 10 _ _ _ (by omega) (by omega), e 36 _ _ _ (by omega) (by omega)]; exact d0
        · rw [e 10 _ _ _ (by omega) (by omega), e 37 _ _ _ (by omega) (by omega)]; exact d1
        · rw [e 10 _ _ _ (by omega) (by omega), e 38 _ _ _ (by omega) (by omega)]; exact d2
        · rw [e 10 _ _ _ (by omega) (by omega), e1]; exact d3
        · rw [e 10 _ _ _ (by omega) (by omega), e2]; exact d4
        · rw [e 11 _ _ _ (by omega) (by omega), e1, e 39 _ _ _ (by omega) (by omega)]; exact d5 i i0 i1
        · rw [e 12 _ _ _ (by omega) (by omega), e 35 _ _ _ (by omega) (by omega)]; exact d6 j j0 j1
        · rw [e 14 _ _ _ (by omega) (by omega), e 16 _ _ _ (by omega) (by omega), e 31 _ _ _ (by omega) (by omega), e 32 _ _ _ (by omega) (by omega), e 33 _ _ _ (by omega) (by omega)]; exact d7 j i j0 j1 i0 i1
        · by_cases es : s' = s ∧ w' = w ∧ i = k
          · obtain ⟨rfl, rfl, rfl⟩ := es
            rw [k18, k34]
          · rw [e 18 _ _ _ (by omega) (by omega), e 34 _ _ _ (by omega) (by omega)]; exact d8 w' i w0 w1 i0 i1
      · rw [e 2 _ _ _ (by omega) (by omega), e 2 _ _ _ (by omega) (by omega), e1, e2]; exact he
      · exact ht.of (e _ _ _ _ (by omega) (by omega)) (fun i => e _ _ _ _ (by omega) (by omega)) (fun i => e _ _ _ _ (by omega) (by omega))
      · exact hw.of (e _ _ _ _ (by omega) (by omega)) (fun i => e _ _ _ _ (by omega) (by omega)) (fun i => e _ _ _ _ (by omega) (by omega))
end

section
-- ===== PART A: goes FIRST, ahead of the names: the tables' words, and 'selects' of the private methods out of them =====
/-- a private method of a class that the tables say can be made, by its rows of tables_1 -/
def lw_okq (q : MethodName × Nat) : Prop := (q.1.cls ≠ "java/lang/invoke/MethodHandle" ∧ q.1.cls ≠ "java/lang/invoke/VarHandle") ∧ Cond.instantiable q.1.cls q.2 ∈ tables_1 ∧ Cond.privateMethod q.1 ∈ tables_1 ∧ Cond.instanceMethod q.1 ∈ tables_1
theorem lw_p0 : lw_okq (⟨"PlateRoom$EdgeTable", "compare", "(I)V"⟩, 5) := ⟨⟨by decide +kernel, by decide +kernel⟩, List.mem_of_getElem? (i := 78) (by decide +kernel), List.mem_of_getElem? (i := 84) (by decide +kernel), List.mem_of_getElem? (i := 85) (by decide +kernel)⟩
theorem lw_p1 : lw_okq (⟨"PlateRoom", "refuse", "(I)I"⟩, 10) := ⟨⟨by decide +kernel, by decide +kernel⟩, List.mem_of_getElem? (i := 13) (by decide +kernel), List.mem_of_getElem? (i := 203) (by decide +kernel), List.mem_of_getElem? (i := 204) (by decide +kernel)⟩
theorem lw_p2 : lw_okq (⟨"PlateRoom", "answer", "(I)I"⟩, 10) := ⟨⟨by decide +kernel, by decide +kernel⟩, List.mem_of_getElem? (i := 13) (by decide +kernel), List.mem_of_getElem? (i := 207) (by decide +kernel), List.mem_of_getElem? (i := 208) (by decide +kernel)⟩
theorem lw_p3 : lw_okq (⟨"PlateRoom", "isPlate", "(I)Z"⟩, 10) := ⟨⟨by decide +kernel, by decide +kernel⟩, List.mem_of_getElem? (i := 13) (by decide +kernel), List.mem_of_getElem? (i := 219) (by decide +kernel), List.mem_of_getElem? (i := 220) (by decide +kernel)⟩
theorem lw_p4 : lw_okq (⟨"PlateRoom", "isMotif", "(I)Z"⟩, 10) := ⟨⟨by decide +kernel, by decide +kernel⟩, List.mem_of_getElem? (i := 13) (by decide +kernel), List.mem_of_getElem? (i := 223) (by decide +kernel), List.mem_of_getElem? (i := 224) (by decide +kernel)⟩
theorem lw_p5 : lw_okq (⟨"PlateRoom", "whyNoFact", "(ZZ)I"⟩, 10) := ⟨⟨by decide +kernel, by decide +kernel⟩, List.mem_of_getElem? (i := 13) (by decide +kernel), List.mem_of_getElem? (i := 233) (by decide +kernel), List.mem_of_getElem? (i := 234) (by decide +kernel)⟩
theorem lw_p6 : lw_okq (⟨"PlateRoom", "areTwoPlates", "(II)Z"⟩, 10) := ⟨⟨by decide +kernel, by decide +kernel⟩, List.mem_of_getElem? (i := 13) (by decide +kernel), List.mem_of_getElem? (i := 263) (by decide +kernel), List.mem_of_getElem? (i := 264) (by decide +kernel)⟩
theorem lw_p7 : lw_okq (⟨"PlateRoom", "tellRange", "(IIIII)I"⟩, 10) := ⟨⟨by decide +kernel, by decide +kernel⟩, List.mem_of_getElem? (i := 13) (by decide +kernel), List.mem_of_getElem? (i := 280) (by decide +kernel), List.mem_of_getElem? (i := 281) (by decide +kernel)⟩
theorem lw_p8 : lw_okq (⟨"PlateRoom", "endOfSpan", "(IZI)I"⟩, 10) := ⟨⟨by decide +kernel, by decide +kernel⟩, List.mem_of_getElem? (i := 13) (by decide +kernel), List.mem_of_getElem? (i := 325) (by decide +kernel), List.mem_of_getElem? (i := 326) (by decide +kernel)⟩
theorem lw_p9 : lw_okq (⟨"PlateRoom$TimeGraph", "startAt", "(II)V"⟩, 6) := ⟨⟨by decide +kernel, by decide +kernel⟩, List.mem_of_getElem? (i := 53) (by decide +kernel), List.mem_of_getElem? (i := 354) (by decide +kernel), List.mem_of_getElem? (i := 355) (by decide +kernel)⟩
theorem lw_p10 : lw_okq (⟨"PlateRoom$TimeGraph", "followBounds", "(I)V"⟩, 6) := ⟨⟨by decide +kernel, by decide +kernel⟩, List.mem_of_getElem? (i := 53) (by decide +kernel), List.mem_of_getElem? (i := 360) (by decide +kernel), List.mem_of_getElem? (i := 361) (by decide +kernel)⟩
theorem lw_p11 : lw_okq (⟨"PlateRoom$TimeGraph", "followRange", "()V"⟩, 6) := ⟨⟨by decide +kernel, by decide +kernel⟩, List.mem_of_getElem? (i := 53) (by decide +kernel), List.mem_of_getElem? (i := 367) (by decide +kernel), List.mem_of_getElem? (i := 368) (by decide +kernel)⟩
theorem lw_p12 : lw_okq (⟨"PlateRoom$TimeGraph", "followLimits", "([II)Z"⟩, 6) := ⟨⟨by decide +kernel, by decide +kernel⟩, List.mem_of_getElem? (i := 53) (by decide +kernel), List.mem_of_getElem? (i := 372) (by decide +kernel), List.mem_of_getElem? (i := 373) (by decide +kernel)⟩
theorem lw_p13 : lw_okq (⟨"PlateRoom$TimeGraph", "fewerLimitsThrough", "(II)I"⟩, 6) := ⟨⟨by decide +kernel, by decide +kernel⟩, List.mem_of_getElem? (i := 53) (by decide +kernel), List.mem_of_getElem? (i := 392) (by decide +kernel), List.mem_of_getElem? (i := 393) (by decide +kernel)⟩
theorem lw_p14 : lw_okq (⟨"PlateRoom", "whyNoRow", "(I)I"⟩, 10) := ⟨⟨by decide +kernel, by decide +kernel⟩, List.mem_of_getElem? (i := 13) (by decide +kernel), List.mem_of_getElem? (i := 420) (by decide +kernel), List.mem_of_getElem? (i := 421) (by decide +kernel)⟩
theorem lw_p15 : lw_okq (⟨"PlateRoom", "isSet", "(I)Z"⟩, 10) := ⟨⟨by decide +kernel, by decide +kernel⟩, List.mem_of_getElem? (i := 13) (by decide +kernel), List.mem_of_getElem? (i := 424) (by decide +kernel), List.mem_of_getElem? (i := 425) (by decide +kernel)⟩
def lw_privs_1 : List (MethodName × Nat) := [(⟨"PlateRoom$EdgeTable", "compare", "(I)V"⟩, 5), (⟨"PlateRoom", "refuse", "(I)I"⟩, 10), (⟨"PlateRoom", "answer", "(I)I"⟩, 10), (⟨"PlateRoom", "isPlate", "(I)Z"⟩, 10), (⟨"PlateRoom", "isMotif", "(I)Z"⟩, 10), (⟨"PlateRoom", "whyNoFact", "(ZZ)I"⟩, 10), (⟨"PlateRoom", "areTwoPlates", "(II)Z"⟩, 10), (⟨"PlateRoom", "tellRange", "(IIIII)I"⟩, 10), (⟨"PlateRoom", "endOfSpan", "(IZI)I"⟩, 10), (⟨"PlateRoom$TimeGraph", "startAt", "(II)V"⟩, 6), (⟨"PlateRoom$TimeGraph", "followBounds", "(I)V"⟩, 6), (⟨"PlateRoom$TimeGraph", "followRange", "()V"⟩, 6), (⟨"PlateRoom$TimeGraph", "followLimits", "([II)Z"⟩, 6), (⟨"PlateRoom$TimeGraph", "fewerLimitsThrough", "(II)I"⟩, 6), (⟨"PlateRoom", "whyNoRow", "(I)I"⟩, 10), (⟨"PlateRoom", "isSet", "(I)Z"⟩, 10)]
theorem lw_r1 : ∀ q ∈ lw_privs_1, lw_okq q := List.forall_mem_cons.mpr ⟨lw_p0, List.forall_mem_cons.mpr ⟨lw_p1, List.forall_mem_cons.mpr ⟨lw_p2, List.forall_mem_cons.mpr ⟨lw_p3, List.forall_mem_cons.mpr ⟨lw_p4, List.forall_mem_cons.mpr ⟨lw_p5, List.forall_mem_cons.mpr ⟨lw_p6, List.forall_mem_cons.mpr ⟨lw_p7, List.forall_mem_cons.mpr ⟨lw_p8, List.forall_mem_cons.mpr ⟨lw_p9, List.forall_mem_cons.mpr ⟨lw_p10, List.forall_mem_cons.mpr ⟨lw_p11, List.forall_mem_cons.mpr ⟨lw_p12, List.forall_mem_cons.mpr ⟨lw_p13, List.forall_mem_cons.mpr ⟨lw_p14, List.forall_mem_cons.mpr ⟨lw_p15, fun _ h => absurd h List.not_mem_nil⟩⟩⟩⟩⟩⟩⟩⟩⟩⟩⟩⟩⟩⟩⟩⟩
theorem lw_p16 : lw_okq (⟨"PlateRoom$EdgeTable", "partOf", "(I)I"⟩, 5) := ⟨⟨by decide +kernel, by decide +kernel⟩, List.mem_of_getElem? (i := 78) (by decide +kernel), List.mem_of_getElem? (i := 432) (by decide +kernel), List.mem_of_getElem? (i := 433) (by decide +kernel)⟩
theorem lw_p17 : lw_okq (⟨"PlateRoom$EdgeTable", "missingLeftOf", "(II)I"⟩, 5) := ⟨⟨by decide +kernel, by decide +kernel⟩, List.mem_of_getElem? (i := 78) (by decide +kernel), List.mem_of_getElem? (i := 443) (by decide +kernel), List.mem_of_getElem? (i := 444) (by decide +kernel)⟩
theorem lw_p18 : lw_okq (⟨"PlateRoom$EdgeTable", "firstPlaces", "(I)I"⟩, 5) := ⟨⟨by decide +kernel, by decide +kernel⟩, List.mem_of_getElem? (i := 78) (by decide +kernel), List.mem_of_getElem? (i := 460) (by decide +kernel), List.mem_of_getElem? (i := 461) (by decide +kernel)⟩
theorem lw_p19 : lw_okq (⟨"PlateRoom$EdgeTable", "leastThatGoesOn", "(II)I"⟩, 5) := ⟨⟨by decide +kernel, by decide +kernel⟩, List.mem_of_getElem? (i := 78) (by decide +kernel), List.mem_of_getElem? (i := 464) (by decide +kernel), List.mem_of_getElem? (i := 465) (by decide +kernel)⟩
theorem lw_p20 : lw_okq (⟨"PlateRoom$EdgeTable", "goesOn", "(II)Z"⟩, 5) := ⟨⟨by decide +kernel, by decide +kernel⟩, List.mem_of_getElem? (i := 78) (by decide +kernel), List.mem_of_getElem? (i := 468) (by decide +kernel), List.mem_of_getElem? (i := 469) (by decide +kernel)⟩
theorem lw_p21 : lw_okq (⟨"PlateRoom$CopyPlan", "sortTurns", "(I)V"⟩, 6) := ⟨⟨by decide +kernel, by decide +kernel⟩, List.mem_of_getElem? (i := 107) (by decide +kernel), List.mem_of_getElem? (i := 502) (by decide +kernel), List.mem_of_getElem? (i := 503) (by decide +kernel)⟩
theorem lw_p22 : lw_okq (⟨"PlateRoom$CopyPlan", "offer", "(II)V"⟩, 6) := ⟨⟨by decide +kernel, by decide +kernel⟩, List.mem_of_getElem? (i := 107) (by decide +kernel), List.mem_of_getElem? (i := 510) (by decide +kernel), List.mem_of_getElem? (i := 511) (by decide +kernel)⟩
theorem lw_p23 : lw_okq (⟨"PlateRoom$CopyPlan", "worthOf", "(I)J"⟩, 6) := ⟨⟨by decide +kernel, by decide +kernel⟩, List.mem_of_getElem? (i := 107) (by decide +kernel), List.mem_of_getElem? (i := 514) (by decide +kernel), List.mem_of_getElem? (i := 515) (by decide +kernel)⟩
theorem lw_p24 : lw_okq (⟨"PlateRoom$RightsBook", "lawInForce", "(I)I"⟩, 7) := ⟨⟨by decide +kernel, by decide +kernel⟩, List.mem_of_getElem? (i := 136) (by decide +kernel), List.mem_of_getElem? (i := 577) (by decide +kernel), List.mem_of_getElem? (i := 578) (by decide +kernel)⟩
theorem lw_p25 : lw_okq (⟨"PlateRoom$RightsBook", "deathKnown", "(II)I"⟩, 7) := ⟨⟨by decide +kernel, by decide +kernel⟩, List.mem_of_getElem? (i := 136) (by decide +kernel), List.mem_of_getElem? (i := 581) (by decide +kernel), List.mem_of_getElem? (i := 582) (by decide +kernel)⟩
theorem lw_p26 : lw_okq (⟨"PlateRoomModel", "refuse", "(I)I"⟩, 41) := ⟨⟨by decide +kernel, by decide +kernel⟩, List.mem_of_getElem? (i := 585) (by decide +kernel), List.mem_of_getElem? (i := 723) (by decide +kernel), List.mem_of_getElem? (i := 724) (by decide +kernel)⟩
theorem lw_p27 : lw_okq (⟨"PlateRoomModel", "isPlate", "(I)Z"⟩, 41) := ⟨⟨by decide +kernel, by decide +kernel⟩, List.mem_of_getElem? (i := 585) (by decide +kernel), List.mem_of_getElem? (i := 735) (by decide +kernel), List.mem_of_getElem? (i := 736) (by decide +kernel)⟩
theorem lw_p28 : lw_okq (⟨"PlateRoomModel", "isMotif", "(I)Z"⟩, 41) := ⟨⟨by decide +kernel, by decide +kernel⟩, List.mem_of_getElem? (i := 585) (by decide +kernel), List.mem_of_getElem? (i := 739) (by decide +kernel), List.mem_of_getElem? (i := 740) (by decide +kernel)⟩
theorem lw_p29 : lw_okq (⟨"PlateRoomModel", "adds", "(IIIII)I"⟩, 41) := ⟨⟨by decide +kernel, by decide +kernel⟩, List.mem_of_getElem? (i := 585) (by decide +kernel), List.mem_of_getElem? (i := 746) (by decide +kernel), List.mem_of_getElem? (i := 747) (by decide +kernel)⟩
theorem lw_p30 : lw_okq (⟨"PlateRoomModel", "isFact", "(I)Z"⟩, 41) := ⟨⟨by decide +kernel, by decide +kernel⟩, List.mem_of_getElem? (i := 585) (by decide +kernel), List.mem_of_getElem? (i := 775) (by decide +kernel), List.mem_of_getElem? (i := 776) (by decide +kernel)⟩
theorem lw_p31 : lw_okq (⟨"PlateRoomModel", "no", "(I)Z"⟩, 41) := ⟨⟨by decide +kernel, by decide +kernel⟩, List.mem_of_getElem? (i := 585) (by decide +kernel), List.mem_of_getElem? (i := 779) (by decide +kernel), List.mem_of_getElem? (i := 780) (by decide +kernel)⟩
def lw_privs_2 : List (MethodName × Nat) := [(⟨"PlateRoom$EdgeTable", "partOf", "(I)I"⟩, 5), (⟨"PlateRoom$EdgeTable", "missingLeftOf", "(II)I"⟩, 5), (⟨"PlateRoom$EdgeTable", "firstPlaces", "(I)I"⟩, 5), (⟨"PlateRoom$EdgeTable", "leastThatGoesOn", "(II)I"⟩, 5), (⟨"PlateRoom$EdgeTable", "goesOn", "(II)Z"⟩, 5), (⟨"PlateRoom$CopyPlan", "sortTurns", "(I)V"⟩, 6), (⟨"PlateRoom$CopyPlan", "offer", "(II)V"⟩, 6), (⟨"PlateRoom$CopyPlan", "worthOf", "(I)J"⟩, 6), (⟨"PlateRoom$RightsBook", "lawInForce", "(I)I"⟩, 7), (⟨"PlateRoom$RightsBook", "deathKnown", "(II)I"⟩, 7), (⟨"PlateRoomModel", "refuse", "(I)I"⟩, 41), (⟨"PlateRoomModel", "isPlate", "(I)Z"⟩, 41), (⟨"PlateRoomModel", "isMotif", "(I)Z"⟩, 41), (⟨"PlateRoomModel", "adds", "(IIIII)I"⟩, 41), (⟨"PlateRoomModel", "isFact", "(I)Z"⟩, 41), (⟨"PlateRoomModel", "no", "(I)Z"⟩, 41)]
theorem lw_r2 : ∀ q ∈ lw_privs_2, lw_okq q := List.forall_mem_cons.mpr ⟨lw_p16, List.forall_mem_cons.mpr ⟨lw_p17, List.forall_mem_cons.mpr ⟨lw_p18, List.forall_mem_cons.mpr ⟨lw_p19, List.forall_mem_cons.mpr ⟨lw_p20, List.forall_mem_cons.mpr ⟨lw_p21, List.forall_mem_cons.mpr ⟨lw_p22, List.forall_mem_cons.mpr ⟨lw_p23, List.forall_mem_cons.mpr ⟨lw_p24, List.forall_mem_cons.mpr ⟨lw_p25, List.forall_mem_cons.mpr ⟨lw_p26, List.forall_mem_cons.mpr ⟨lw_p27, List.forall_mem_cons.mpr ⟨lw_p28, List.forall_mem_cons.mpr ⟨lw_p29, List.forall_mem_cons.mpr ⟨lw_p30, List.forall_mem_cons.mpr ⟨lw_p31, fun _ h => absurd h List.not_mem_nil⟩⟩⟩⟩⟩⟩⟩⟩⟩⟩⟩⟩⟩⟩⟩⟩
theorem lw_p32 : lw_okq (⟨"PlateRoomModel", "spanOf", "(IZI)I"⟩, 41) := ⟨⟨by decide +kernel, by decide +kernel⟩, List.mem_of_getElem? (i := 585) (by decide +kernel), List.mem_of_getElem? (i := 794) (by decide +kernel), List.mem_of_getElem? (i := 795) (by decide +kernel)⟩
theorem lw_p33 : lw_okq (⟨"PlateRoomModel", "net", "(II)V"⟩, 41) := ⟨⟨by decide +kernel, by decide +kernel⟩, List.mem_of_getElem? (i := 585) (by decide +kernel), List.mem_of_getElem? (i := 798) (by decide +kernel), List.mem_of_getElem? (i := 799) (by decide +kernel)⟩
theorem lw_p34 : lw_okq (⟨"PlateRoomModel", "bound", "(I)V"⟩, 41) := ⟨⟨by decide +kernel, by decide +kernel⟩, List.mem_of_getElem? (i := 585) (by decide +kernel), List.mem_of_getElem? (i := 802) (by decide +kernel), List.mem_of_getElem? (i := 803) (by decide +kernel)⟩
theorem lw_p35 : lw_okq (⟨"PlateRoomModel", "way", "(IIJ)V"⟩, 41) := ⟨⟨by decide +kernel, by decide +kernel⟩, List.mem_of_getElem? (i := 585) (by decide +kernel), List.mem_of_getElem? (i := 806) (by decide +kernel), List.mem_of_getElem? (i := 807) (by decide +kernel)⟩
theorem lw_p36 : lw_okq (⟨"PlateRoomModel", "isKnown", "(II)Z"⟩, 41) := ⟨⟨by decide +kernel, by decide +kernel⟩, List.mem_of_getElem? (i := 585) (by decide +kernel), List.mem_of_getElem? (i := 817) (by decide +kernel), List.mem_of_getElem? (i := 818) (by decide +kernel)⟩
theorem lw_p37 : lw_okq (⟨"PlateRoomModel", "within", "(III)V"⟩, 41) := ⟨⟨by decide +kernel, by decide +kernel⟩, List.mem_of_getElem? (i := 585) (by decide +kernel), List.mem_of_getElem? (i := 821) (by decide +kernel), List.mem_of_getElem? (i := 822) (by decide +kernel)⟩
theorem lw_p38 : lw_okq (⟨"PlateRoomModel", "goes", "(I)Z"⟩, 41) := ⟨⟨by decide +kernel, by decide +kernel⟩, List.mem_of_getElem? (i := 585) (by decide +kernel), List.mem_of_getElem? (i := 825) (by decide +kernel), List.mem_of_getElem? (i := 826) (by decide +kernel)⟩
theorem lw_p39 : lw_okq (⟨"PlateRoomModel", "longer", "(I)V"⟩, 41) := ⟨⟨by decide +kernel, by decide +kernel⟩, List.mem_of_getElem? (i := 585) (by decide +kernel), List.mem_of_getElem? (i := 838) (by decide +kernel), List.mem_of_getElem? (i := 839) (by decide +kernel)⟩
theorem lw_p40 : lw_okq (⟨"PlateRoomModel", "isSet", "(I)Z"⟩, 41) := ⟨⟨by decide +kernel, by decide +kernel⟩, List.mem_of_getElem? (i := 585) (by decide +kernel), List.mem_of_getElem? (i := 859) (by decide +kernel), List.mem_of_getElem? (i := 860) (by decide +kernel)⟩
theorem lw_p41 : lw_okq (⟨"PlateRoomModel", "finds", "(I)Z"⟩, 41) := ⟨⟨by decide +kernel, by decide +kernel⟩, List.mem_of_getElem? (i := 585) (by decide +kernel), List.mem_of_getElem? (i := 863) (by decide +kernel), List.mem_of_getElem? (i := 864) (by decide +kernel)⟩
theorem lw_p42 : lw_okq (⟨"PlateRoomModel", "hasRow", "(II)Z"⟩, 41) := ⟨⟨by decide +kernel, by decide +kernel⟩, List.mem_of_getElem? (i := 585) (by decide +kernel), List.mem_of_getElem? (i := 867) (by decide +kernel), List.mem_of_getElem? (i := 868) (by decide +kernel)⟩
theorem lw_p43 : lw_okq (⟨"PlateRoomModel", "marks", "(I)V"⟩, 41) := ⟨⟨by decide +kernel, by decide +kernel⟩, List.mem_of_getElem? (i := 585) (by decide +kernel), List.mem_of_getElem? (i := 871) (by decide +kernel), List.mem_of_getElem? (i := 872) (by decide +kernel)⟩
theorem lw_p44 : lw_okq (⟨"PlateRoomModel", "leftOf", "(I)I"⟩, 41) := ⟨⟨by decide +kernel, by decide +kernel⟩, List.mem_of_getElem? (i := 585) (by decide +kernel), List.mem_of_getElem? (i := 875) (by decide +kernel), List.mem_of_getElem? (i := 876) (by decide +kernel)⟩
theorem lw_p45 : lw_okq (⟨"PlateRoomModel", "rightOf", "(I)I"⟩, 41) := ⟨⟨by decide +kernel, by decide +kernel⟩, List.mem_of_getElem? (i := 585) (by decide +kernel), List.mem_of_getElem? (i := 879) (by decide +kernel), List.mem_of_getElem? (i := 880) (by decide +kernel)⟩
theorem lw_p46 : lw_okq (⟨"PlateRoomModel", "counts", "(I)V"⟩, 41) := ⟨⟨by decide +kernel, by decide +kernel⟩, List.mem_of_getElem? (i := 585) (by decide +kernel), List.mem_of_getElem? (i := 884) (by decide +kernel), List.mem_of_getElem? (i := 885) (by decide +kernel)⟩
theorem lw_p47 : lw_okq (⟨"PlateRoomModel", "isNext", "(III)Z"⟩, 41) := ⟨⟨by decide +kernel, by decide +kernel⟩, List.mem_of_getElem? (i := 585) (by decide +kernel), List.mem_of_getElem? (i := 889) (by decide +kernel), List.mem_of_getElem? (i := 890) (by decide +kernel)⟩
def lw_privs_3 : List (MethodName × Nat) := [(⟨"PlateRoomModel", "spanOf", "(IZI)I"⟩, 41), (⟨"PlateRoomModel", "net", "(II)V"⟩, 41), (⟨"PlateRoomModel", "bound", "(I)V"⟩, 41), (⟨"PlateRoomModel", "way", "(IIJ)V"⟩, 41), (⟨"PlateRoomModel", "isKnown", "(II)Z"⟩, 41), (⟨"PlateRoomModel", "within", "(III)V"⟩, 41), (⟨"PlateRoomModel", "goes", "(I)Z"⟩, 41), (⟨"PlateRoomModel", "longer", "(I)V"⟩, 41), (⟨"PlateRoomModel", "isSet", "(I)Z"⟩, 41), (⟨"PlateRoomModel", "finds", "(I)Z"⟩, 41), (⟨"PlateRoomModel", "hasRow", "(II)Z"⟩, 41), (⟨"PlateRoomModel", "marks", "(I)V"⟩, 41), (⟨"PlateRoomModel", "leftOf", "(I)I"⟩, 41), (⟨"PlateRoomModel", "rightOf", "(I)I"⟩, 41), (⟨"PlateRoomModel", "counts", "(I)V"⟩, 41), (⟨"PlateRoomModel", "isNext", "(III)Z"⟩, 41)]
theorem lw_r3 : ∀ q ∈ lw_privs_3, lw_okq q := List.forall_mem_cons.mpr ⟨lw_p32, List.forall_mem_cons.mpr ⟨lw_p33, List.forall_mem_cons.mpr ⟨lw_p34, List.forall_mem_cons.mpr ⟨lw_p35, List.forall_mem_cons.mpr ⟨lw_p36, List.forall_mem_cons.mpr ⟨lw_p37, List.forall_mem_cons.mpr ⟨lw_p38, List.forall_mem_cons.mpr ⟨lw_p39, List.forall_mem_cons.mpr ⟨lw_p40, List.forall_mem_cons.mpr ⟨lw_p41, List.forall_mem_cons.mpr ⟨lw_p42, List.forall_mem_cons.mpr ⟨lw_p43, List.forall_mem_cons.mpr ⟨lw_p44, List.forall_mem_cons.mpr ⟨lw_p45, List.forall_mem_cons.mpr ⟨lw_p46, List.forall_mem_cons.mpr ⟨lw_p47, fun _ h => absurd h List.not_mem_nil⟩⟩⟩⟩⟩⟩⟩⟩⟩⟩⟩⟩⟩⟩⟩⟩
theorem lw_p48 : lw_okq (⟨"PlateRoomModel", "isEdge", "(II)Z"⟩, 41) := ⟨⟨by decide +kernel, by decide +kernel⟩, List.mem_of_getElem? (i := 585) (by decide +kernel), List.mem_of_getElem? (i := 901) (by decide +kernel), List.mem_of_getElem? (i := 902) (by decide +kernel)⟩
theorem lw_p49 : lw_okq (⟨"PlateRoomModel", "chooses", "()I"⟩, 41) := ⟨⟨by decide +kernel, by decide +kernel⟩, List.mem_of_getElem? (i := 585) (by decide +kernel), List.mem_of_getElem? (i := 917) (by decide +kernel), List.mem_of_getElem? (i := 918) (by decide +kernel)⟩
theorem lw_p50 : lw_okq (⟨"PlateRoomModel", "orders", "()V"⟩, 41) := ⟨⟨by decide +kernel, by decide +kernel⟩, List.mem_of_getElem? (i := 585) (by decide +kernel), List.mem_of_getElem? (i := 921) (by decide +kernel), List.mem_of_getElem? (i := 922) (by decide +kernel)⟩
theorem lw_p51 : lw_okq (⟨"PlateRoomModel", "mostOf", "()I"⟩, 41) := ⟨⟨by decide +kernel, by decide +kernel⟩, List.mem_of_getElem? (i := 585) (by decide +kernel), List.mem_of_getElem? (i := 925) (by decide +kernel), List.mem_of_getElem? (i := 926) (by decide +kernel)⟩
def lw_privs_4 : List (MethodName × Nat) := [(⟨"PlateRoomModel", "isEdge", "(II)Z"⟩, 41), (⟨"PlateRoomModel", "chooses", "()I"⟩, 41), (⟨"PlateRoomModel", "orders", "()V"⟩, 41), (⟨"PlateRoomModel", "mostOf", "()I"⟩, 41)]
theorem lw_r4 : ∀ q ∈ lw_privs_4, lw_okq q := List.forall_mem_cons.mpr ⟨lw_p48, List.forall_mem_cons.mpr ⟨lw_p49, List.forall_mem_cons.mpr ⟨lw_p50, List.forall_mem_cons.mpr ⟨lw_p51, fun _ h => absurd h List.not_mem_nil⟩⟩⟩⟩
def lw_privs : List (MethodName × Nat) := lw_privs_1 ++ (lw_privs_2 ++ (lw_privs_3 ++ (lw_privs_4)))
def lw_tbl : List Cond := k2_sels lw_privs ++ tables_1
theorem lw_privs_ok : ∀ q ∈ lw_privs, lw_okq q := by
  show ∀ q ∈ lw_privs_1 ++ (lw_privs_2 ++ (lw_privs_3 ++ (lw_privs_4))), lw_okq q
  exact List.forall_mem_append.mpr ⟨lw_r1, List.forall_mem_append.mpr ⟨lw_r2, List.forall_mem_append.mpr ⟨lw_r3, lw_r4⟩⟩⟩
-- ===== end of PART A; then your names; then what follows =====
end
section
/-! ===== BEGIN words of one list among another's, by their places ===== -/
theorem goodIn_r {big : List Cond} (ws : List Cond) (ps : List Nat) (hp : ws = ps.filterMap (fun i => big[i]?)) (h : ws.all goodWord = true) : GoodIn big ws := by
  intro w hw
  have h1 := List.all_eq_true.mp h w hw
  rw [hp] at hw
  obtain ⟨i, -, hi⟩ := List.mem_filterMap.mp hw
  have hm : w ∈ big := by first | exact List.mem_of_getElem? hi | exact List.getElem?_mem hi
  exact ⟨hm, good_of_word h1⟩
theorem goodIn_app {big a b : List Cond} (ha : GoodIn big a) (hb : GoodIn big b) : GoodIn big (a ++ b) := fun w h => (List.mem_append.mp h).elim (ha w) (hb w)
theorem goodIn_ca {big a b : List Cond} {c : Cond} (ha : GoodIn big (c :: a)) (hb : GoodIn big b) : GoodIn big (c :: (a ++ b)) := fun w h => (List.mem_cons.mp h).elim (fun e => ha w (List.mem_cons.mpr (Or.inl e))) (fun h => (List.mem_append.mp h).elim (fun h => ha w (List.mem_cons.mpr (Or.inr h))) (hb w))
theorem goodIn_sub {big ws : List Cond} (hm : ∀ w ∈ ws, w ∈ big) (h : ws.all goodWord = true) : GoodIn big ws := fun w hw => ⟨hm w hw, good_of_word (List.all_eq_true.mp h w hw)⟩
/-! ===== END ===== -/

/-! ===== BEGIN printed: names, fields, word lists, decode rows ===== -/
def RX0 : String := "PlateRoom$CopyPlan"
def TX0 : u_T := fun k => match k with
  | 0 => ("PlateRoom$CopyPlan", "wanted", "[I", true)
  | 1 => ("PlateRoom$CopyPlan", "hours", "[I", true)
  | 2 => ("PlateRoom$CopyPlan", "lost", "[I", true)
  | 3 => ("PlateRoom$CopyPlan", "turns", "[I", true)
  | 4 => ("PlateRoom$CopyPlan", "worths", "[J", true)
  | _ => ("PlateRoom$CopyPlan", "bestWorth", "J", false)
def tyX0 : Nat → FieldType := fun k => match k with
  | 0 => .array .int
  | 1 => .array .int
  | 2 => .array .int
  | 3 => .array .int
  | 4 => .array .long
  | _ => .long
abbrev wsX00 : List Cond := u_ws RX0 TX0 6
theorem nmX0 : ∀ a, a < 6 → ∀ b, b < 6 → a ≠ b → (TX0 a).2.1 ≠ (TX0 b).2.1 := by decide +kernel
theorem tyX0_ok : ∀ k, k < 6 → parseFieldDescriptor (TX0 k).2.2.1 = some (tyX0 k) := by decide +kernel
abbrev cX0_init : ByteArray := prog_2_method_1_code
def yX0_init : MethodName := ⟨RX0, "<init>", "()V"⟩
abbrev cX0_setWish : ByteArray := prog_2_method_2_code
def yX0_setWish : MethodName := ⟨RX0, "setWish", "(IIII)V"⟩
abbrev cX0_choose : ByteArray := prog_2_method_3_code
def yX0_choose : MethodName := ⟨RX0, "choose", "(I)V"⟩
abbrev cX0_offer : ByteArray := prog_2_method_4_code
def yX0_offer : MethodName := ⟨RX0, "offer", "(II)V"⟩
abbrev cX0_worthOf : ByteArray := prog_2_method_5_code
def yX0_worthOf : MethodName := ⟨RX0, "worthOf", "(I)J"⟩
abbrev cX0_bitOf : ByteArray := prog_2_method_6_code
def yX0_bitOf : MethodName := ⟨RX0, "bitOf", "(I)J"⟩
abbrev cX0_sortTurns : ByteArray := prog_2_method_7_code
def yX0_sortTurns : MethodName := ⟨RX0, "sortTurns", "(I)V"⟩
abbrev cX0_wantedTogether : ByteArray := prog_2_method_8_code
def yX0_wantedTogether : MethodName := ⟨RX0, "wantedTogether", "()I"⟩
abbrev cX0_isChosen : ByteArray := prog_2_method_9_code
def yX0_isChosen : MethodName := ⟨RX0, "isChosen", "(I)Z"⟩
abbrev cX0_beginningOf : ByteArray := prog_2_method_10_code
def yX0_beginningOf : MethodName := ⟨RX0, "beginningOf", "(II)I"⟩
def RX1 : String := "PlateRoom$EdgeTable"
def TX1 : u_T := fun k => match k with
  | 0 => ("PlateRoom$EdgeTable", "lefts", "[I", true)
  | 1 => ("PlateRoom$EdgeTable", "rights", "[I", true)
  | 2 => ("PlateRoom$EdgeTable", "likeLeft", "[I", true)
  | 3 => ("PlateRoom$EdgeTable", "leftOf", "[I", true)
  | _ => ("PlateRoom$EdgeTable", "rightOf", "[I", true)
def tyX1 : Nat → FieldType := fun k => match k with
  | 0 => .array .int
  | 1 => .array .int
  | 2 => .array .int
  | 3 => .array .int
  | _ => .array .int
abbrev wsX10 : List Cond := u_ws RX1 TX1 5
theorem nmX1 : ∀ a, a < 5 → ∀ b, b < 5 → a ≠ b → (TX1 a).2.1 ≠ (TX1 b).2.1 := by decide +kernel
theorem tyX1_ok : ∀ k, k < 5 → parseFieldDescriptor (TX1 k).2.2.1 = some (tyX1 k) := by decide +kernel
abbrev cX1_init : ByteArray := prog_3_method_1_code
def yX1_init : MethodName := ⟨RX1, "<init>", "()V"⟩
abbrev cX1_setEdges : ByteArray := prog_3_method_2_code
def yX1_setEdges : MethodName := ⟨RX1, "setEdges", "(III)V"⟩
abbrev cX1_compare : ByteArray := prog_3_method_3_code
def yX1_compare : MethodName := ⟨RX1, "compare", "(I)V"⟩
abbrev cX1_fits : ByteArray := prog_3_method_4_code
def yX1_fits : MethodName := ⟨RX1, "fits", "(II)Z"⟩
abbrev cX1_holds : ByteArray := prog_3_method_5_code
def yX1_holds : MethodName := ⟨RX1, "holds", "(II)Z"⟩
abbrev cX1_missingLeftOf : ByteArray := prog_3_method_6_code
def yX1_missingLeftOf : MethodName := ⟨RX1, "missingLeftOf", "(II)I"⟩
abbrev cX1_startsIn : ByteArray := prog_3_method_7_code
def yX1_startsIn : MethodName := ⟨RX1, "startsIn", "(I)I"⟩
abbrev cX1_partOf : ByteArray := prog_3_method_8_code
def yX1_partOf : MethodName := ⟨RX1, "partOf", "(I)I"⟩
abbrev cX1_fewestRows : ByteArray := prog_3_method_9_code
def yX1_fewestRows : MethodName := ⟨RX1, "fewestRows", "(I)I"⟩
abbrev cX1_writeFirstRow : ByteArray := prog_3_method_10_code
def yX1_writeFirstRow : MethodName := ⟨RX1, "writeFirstRow", "(I[I)I"⟩
abbrev cX1_firstPlaces : ByteArray := prog_3_method_11_code
def yX1_firstPlaces : MethodName := ⟨RX1, "firstPlaces", "(I)I"⟩
abbrev cX1_leastThatGoesOn : ByteArray := prog_3_method_12_code
def yX1_leastThatGoesOn : MethodName := ⟨RX1, "leastThatGoesOn", "(II)I"⟩
abbrev cX1_goesOn : ByteArray := prog_3_method_13_code
def yX1_goesOn : MethodName := ⟨RX1, "goesOn", "(II)Z"⟩
def RX2 : String := "PlateRoom$FactBook"
def TX2 : u_T := fun k => match k with
  | 0 => ("PlateRoom$FactBook", "kinds", "[I", true)
  | 1 => ("PlateRoom$FactBook", "toldOn", "[I", true)
  | 2 => ("PlateRoom$FactBook", "crossedOn", "[I", true)
  | 3 => ("PlateRoom$FactBook", "limitCounts", "[I", true)
  | 4 => ("PlateRoom$FactBook", "tails", "[I", true)
  | 5 => ("PlateRoom$FactBook", "heads", "[I", true)
  | 6 => ("PlateRoom$FactBook", "lengths", "[I", true)
  | _ => ("PlateRoom$FactBook", "count", "I", false)
def tyX2 : Nat → FieldType := fun k => match k with
  | 0 => .array .int
  | 1 => .array .int
  | 2 => .array .int
  | 3 => .array .int
  | 4 => .array .int
  | 5 => .array .int
  | 6 => .array .int
  | _ => .int
abbrev wsX20 : List Cond := u_ws RX2 TX2 8
theorem nmX2 : ∀ a, a < 8 → ∀ b, b < 8 → a ≠ b → (TX2 a).2.1 ≠ (TX2 b).2.1 := by decide +kernel
theorem tyX2_ok : ∀ k, k < 8 → parseFieldDescriptor (TX2 k).2.2.1 = some (tyX2 k) := by decide +kernel
abbrev cX2_init : ByteArray := prog_4_method_1_code
def yX2_init : MethodName := ⟨RX2, "<init>", "()V"⟩
abbrev cX2_isFull : ByteArray := prog_4_method_2_code
def yX2_isFull : MethodName := ⟨RX2, "isFull", "()Z"⟩
abbrev cX2_size : ByteArray := prog_4_method_3_code
def yX2_size : MethodName := ⟨RX2, "size", "()I"⟩
abbrev cX2_has : ByteArray := prog_4_method_4_code
def yX2_has : MethodName := ⟨RX2, "has", "(I)Z"⟩
abbrev cX2_tell : ByteArray := prog_4_method_5_code
def yX2_tell : MethodName := ⟨RX2, "tell", "(II)I"⟩
abbrev cX2_addLimit : ByteArray := prog_4_method_6_code
def yX2_addLimit : MethodName := ⟨RX2, "addLimit", "(III)V"⟩
abbrev cX2_crossOut : ByteArray := prog_4_method_7_code
def yX2_crossOut : MethodName := ⟨RX2, "crossOut", "(II)V"⟩
abbrev cX2_kindOf : ByteArray := prog_4_method_8_code
def yX2_kindOf : MethodName := ⟨RX2, "kindOf", "(I)I"⟩
abbrev cX2_tellingDay : ByteArray := prog_4_method_9_code
def yX2_tellingDay : MethodName := ⟨RX2, "tellingDay", "(I)I"⟩
abbrev cX2_crossingDay : ByteArray := prog_4_method_10_code
def yX2_crossingDay : MethodName := ⟨RX2, "crossingDay", "(I)I"⟩
abbrev cX2_limitsOf : ByteArray := prog_4_method_11_code
def yX2_limitsOf : MethodName := ⟨RX2, "limitsOf", "(I)I"⟩
abbrev cX2_isKnown : ByteArray := prog_4_method_12_code
def yX2_isKnown : MethodName := ⟨RX2, "isKnown", "(II)Z"⟩
abbrev cX2_copyLimits : ByteArray := prog_4_method_13_code
def yX2_copyLimits : MethodName := ⟨RX2, "copyLimits", "(ILPlateRoom$TimeGraph;I)I"⟩
def RX3 : String := "PlateRoom$RightsBook"
def TX3 : u_T := fun k => match k with
  | 0 => ("PlateRoom$RightsBook", "lawStarts", "[I", true)
  | 1 => ("PlateRoom$RightsBook", "lawDays", "[I", true)
  | 2 => ("PlateRoom$RightsBook", "deathPlates", "[I", true)
  | 3 => ("PlateRoom$RightsBook", "deathDays", "[I", true)
  | 4 => ("PlateRoom$RightsBook", "deathsToldOn", "[I", true)
  | 5 => ("PlateRoom$RightsBook", "lawCount", "I", false)
  | _ => ("PlateRoom$RightsBook", "deathCount", "I", false)
def tyX3 : Nat → FieldType := fun k => match k with
  | 0 => .array .int
  | 1 => .array .int
  | 2 => .array .int
  | 3 => .array .int
  | 4 => .array .int
  | 5 => .int
  | _ => .int
abbrev wsX30 : List Cond := u_ws RX3 TX3 7
theorem nmX3 : ∀ a, a < 7 → ∀ b, b < 7 → a ≠ b → (TX3 a).2.1 ≠ (TX3 b).2.1 := by decide +kernel
theorem tyX3_ok : ∀ k, k < 7 → parseFieldDescriptor (TX3 k).2.2.1 = some (tyX3 k) := by decide +kernel
abbrev cX3_init : ByteArray := prog_5_method_1_code
def yX3_init : MethodName := ⟨RX3, "<init>", "()V"⟩
abbrev cX3_hasAllLaws : ByteArray := prog_5_method_2_code
def yX3_hasAllLaws : MethodName := ⟨RX3, "hasAllLaws", "()Z"⟩
abbrev cX3_hasAllDeaths : ByteArray := prog_5_method_3_code
def yX3_hasAllDeaths : MethodName := ⟨RX3, "hasAllDeaths", "()Z"⟩
abbrev cX3_addLaw : ByteArray := prog_5_method_4_code
def yX3_addLaw : MethodName := ⟨RX3, "addLaw", "(II)V"⟩
abbrev cX3_addDeath : ByteArray := prog_5_method_5_code
def yX3_addDeath : MethodName := ⟨RX3, "addDeath", "(III)V"⟩
abbrev cX3_isFreeOn : ByteArray := prog_5_method_6_code
def yX3_isFreeOn : MethodName := ⟨RX3, "isFreeOn", "(III)Z"⟩
abbrev cX3_lawInForce : ByteArray := prog_5_method_7_code
def yX3_lawInForce : MethodName := ⟨RX3, "lawInForce", "(I)I"⟩
abbrev cX3_deathKnown : ByteArray := prog_5_method_8_code
def yX3_deathKnown : MethodName := ⟨RX3, "deathKnown", "(II)I"⟩
def RX4 : String := "PlateRoom$TimeGraph"
def TX4 : u_T := fun k => match k with
  | 0 => ("PlateRoom$TimeGraph", "tails", "[I", true)
  | 1 => ("PlateRoom$TimeGraph", "heads", "[I", true)
  | 2 => ("PlateRoom$TimeGraph", "lengths", "[I", true)
  | 3 => ("PlateRoom$TimeGraph", "ways", "[I", true)
  | 4 => ("PlateRoom$TimeGraph", "earlier", "[I", true)
  | _ => ("PlateRoom$TimeGraph", "limitCount", "I", false)
def tyX4 : Nat → FieldType := fun k => match k with
  | 0 => .array .int
  | 1 => .array .int
  | 2 => .array .int
  | 3 => .array .int
  | 4 => .array .int
  | _ => .int
abbrev wsX40 : List Cond := u_ws RX4 TX4 6
theorem nmX4 : ∀ a, a < 6 → ∀ b, b < 6 → a ≠ b → (TX4 a).2.1 ≠ (TX4 b).2.1 := by decide +kernel
theorem tyX4_ok : ∀ k, k < 6 → parseFieldDescriptor (TX4 k).2.2.1 = some (tyX4 k) := by decide +kernel
abbrev cX4_init : ByteArray := prog_6_method_1_code
def yX4_init : MethodName := ⟨RX4, "<init>", "()V"⟩
abbrev cX4_gather : ByteArray := prog_6_method_2_code
def yX4_gather : MethodName := ⟨RX4, "gather", "(LPlateRoom$FactBook;II)V"⟩
abbrev cX4_setLimit : ByteArray := prog_6_method_3_code
def yX4_setLimit : MethodName := ⟨RX4, "setLimit", "(IIII)V"⟩
abbrev cX4_wayTo : ByteArray := prog_6_method_4_code
def yX4_wayTo : MethodName := ⟨RX4, "wayTo", "(I)I"⟩
abbrev cX4_measureFrom : ByteArray := prog_6_method_5_code
def yX4_measureFrom : MethodName := ⟨RX4, "measureFrom", "(I)Z"⟩
abbrev cX4_fewestLimits : ByteArray := prog_6_method_6_code
def yX4_fewestLimits : MethodName := ⟨RX4, "fewestLimits", "()I"⟩
abbrev cX4_fewerLimitsThrough : ByteArray := prog_6_method_7_code
def yX4_fewerLimitsThrough : MethodName := ⟨RX4, "fewerLimitsThrough", "(II)I"⟩
abbrev cX4_startAt : ByteArray := prog_6_method_8_code
def yX4_startAt : MethodName := ⟨RX4, "startAt", "(II)V"⟩
abbrev cX4_followLimits : ByteArray := prog_6_method_9_code
def yX4_followLimits : MethodName := ⟨RX4, "followLimits", "([II)Z"⟩
abbrev cX4_followBounds : ByteArray := prog_6_method_10_code
def yX4_followBounds : MethodName := ⟨RX4, "followBounds", "(I)V"⟩
abbrev cX4_followRange : ByteArray := prog_6_method_11_code
def yX4_followRange : MethodName := ⟨RX4, "followRange", "()V"⟩
def RX5 : String := "PlateRoom"
def TX5 : u_T := fun k => match k with
  | 0 => ("PlateRoom", "facts", "LPlateRoom$FactBook;", true)
  | 1 => ("PlateRoom", "graph", "LPlateRoom$TimeGraph;", true)
  | 2 => ("PlateRoom", "table", "LPlateRoom$EdgeTable;", true)
  | 3 => ("PlateRoom", "plan", "LPlateRoom$CopyPlan;", true)
  | 4 => ("PlateRoom", "rights", "LPlateRoom$RightsBook;", true)
  | 5 => ("PlateRoom", "outRow", "[I", true)
  | 6 => ("PlateRoom", "outLength", "I", false)
  | 7 => ("PlateRoom", "plateCount", "I", false)
  | 8 => ("PlateRoom", "motifCount", "I", false)
  | _ => ("PlateRoom", "lastStatus", "I", false)
def tyX5 : Nat → FieldType := fun k => match k with
  | 0 => .object "PlateRoom$FactBook"
  | 1 => .object "PlateRoom$TimeGraph"
  | 2 => .object "PlateRoom$EdgeTable"
  | 3 => .object "PlateRoom$CopyPlan"
  | 4 => .object "PlateRoom$RightsBook"
  | 5 => .array .int
  | 6 => .int
  | 7 => .int
  | 8 => .int
  | _ => .int
abbrev wsX50 : List Cond := u_ws RX5 TX5 10
theorem nmX5 : ∀ a, a < 10 → ∀ b, b < 10 → a ≠ b → (TX5 a).2.1 ≠ (TX5 b).2.1 := by decide +kernel
theorem tyX5_ok : ∀ k, k < 10 → parseFieldDescriptor (TX5 k).2.2.1 = some (tyX5 k) := by decide +kernel
abbrev cX5_init : ByteArray := prog_1_method_1_code
def yX5_init : MethodName := ⟨RX5, "<init>", "()V"⟩
abbrev cX5_status : ByteArray := prog_1_method_2_code
def yX5_status : MethodName := ⟨RX5, "status", "()I"⟩
abbrev cX5_plate : ByteArray := prog_1_method_3_code
def yX5_plate : MethodName := ⟨RX5, "plate", "()I"⟩
abbrev cX5_motif : ByteArray := prog_1_method_4_code
def yX5_motif : MethodName := ⟨RX5, "motif", "()I"⟩
abbrev cX5_shows : ByteArray := prog_1_method_5_code
def yX5_shows : MethodName := ⟨RX5, "shows", "(III)I"⟩
abbrev cX5_ahead : ByteArray := prog_1_method_6_code
def yX5_ahead : MethodName := ⟨RX5, "ahead", "(IIII)I"⟩
abbrev cX5_same : ByteArray := prog_1_method_7_code
def yX5_same : MethodName := ⟨RX5, "same", "(III)I"⟩
abbrev cX5_taken : ByteArray := prog_1_method_8_code
def yX5_taken : MethodName := ⟨RX5, "taken", "(IIII)I"⟩
abbrev cX5_stood : ByteArray := prog_1_method_9_code
def yX5_stood : MethodName := ⟨RX5, "stood", "(IZIII)I"⟩
abbrev cX5_cross : ByteArray := prog_1_method_10_code
def yX5_cross : MethodName := ⟨RX5, "cross", "(II)Z"⟩
abbrev cX5_fact : ByteArray := prog_1_method_11_code
def yX5_fact : MethodName := ⟨RX5, "fact", "(II)I"⟩
abbrev cX5_span : ByteArray := prog_1_method_12_code
def yX5_span : MethodName := ⟨RX5, "span", "(IZI)I"⟩
abbrev cX5_times : ByteArray := prog_1_method_13_code
def yX5_times : MethodName := ⟨RX5, "times", "(IZZI)I"⟩
abbrev cX5_quarrel : ByteArray := prog_1_method_14_code
def yX5_quarrel : MethodName := ⟨RX5, "quarrel", "(I)I"⟩
abbrev cX5_frees : ByteArray := prog_1_method_15_code
def yX5_frees : MethodName := ⟨RX5, "frees", "(II)I"⟩
abbrev cX5_order : ByteArray := prog_1_method_16_code
def yX5_order : MethodName := ⟨RX5, "order", "(III)I"⟩
abbrev cX5_edges : ByteArray := prog_1_method_17_code
def yX5_edges : MethodName := ⟨RX5, "edges", "(III)Z"⟩
abbrev cX5_row : ByteArray := prog_1_method_18_code
def yX5_row : MethodName := ⟨RX5, "row", "(I)I"⟩
abbrev cX5_ring : ByteArray := prog_1_method_19_code
def yX5_ring : MethodName := ⟨RX5, "ring", "(I)I"⟩
abbrev cX5_rows : ByteArray := prog_1_method_20_code
def yX5_rows : MethodName := ⟨RX5, "rows", "(I)I"⟩
abbrev cX5_out : ByteArray := prog_1_method_21_code
def yX5_out : MethodName := ⟨RX5, "out", "(I)I"⟩
abbrev cX5_want : ByteArray := prog_1_method_22_code
def yX5_want : MethodName := ⟨RX5, "want", "(IIII)Z"⟩
abbrev cX5_best : ByteArray := prog_1_method_23_code
def yX5_best : MethodName := ⟨RX5, "best", "()I"⟩
abbrev cX5_hour : ByteArray := prog_1_method_24_code
def yX5_hour : MethodName := ⟨RX5, "hour", "(I)I"⟩
abbrev cX5_law : ByteArray := prog_1_method_25_code
def yX5_law : MethodName := ⟨RX5, "law", "(II)Z"⟩
abbrev cX5_death : ByteArray := prog_1_method_26_code
def yX5_death : MethodName := ⟨RX5, "death", "(III)Z"⟩
abbrev cX5_free : ByteArray := prog_1_method_27_code
def yX5_free : MethodName := ⟨RX5, "free", "(III)I"⟩
abbrev cX5_refuse : ByteArray := prog_1_method_28_code
def yX5_refuse : MethodName := ⟨RX5, "refuse", "(I)I"⟩
abbrev cX5_answer : ByteArray := prog_1_method_29_code
def yX5_answer : MethodName := ⟨RX5, "answer", "(I)I"⟩
abbrev cX5_whyNot : ByteArray := prog_1_method_30_code
def yX5_whyNot : MethodName := ⟨RX5, "whyNot", "(ZZ)I"⟩
abbrev cX5_whyNoFact : ByteArray := prog_1_method_31_code
def yX5_whyNoFact : MethodName := ⟨RX5, "whyNoFact", "(ZZ)I"⟩
abbrev cX5_whyNoRow : ByteArray := prog_1_method_32_code
def yX5_whyNoRow : MethodName := ⟨RX5, "whyNoRow", "(I)I"⟩
abbrev cX5_isWithin : ByteArray := prog_1_method_33_code
def yX5_isWithin : MethodName := ⟨RX5, "isWithin", "(III)Z"⟩
abbrev cX5_isDay : ByteArray := prog_1_method_34_code
def yX5_isDay : MethodName := ⟨RX5, "isDay", "(I)Z"⟩
abbrev cX5_isTimeRange : ByteArray := prog_1_method_35_code
def yX5_isTimeRange : MethodName := ⟨RX5, "isTimeRange", "(II)Z"⟩
abbrev cX5_isPlate : ByteArray := prog_1_method_36_code
def yX5_isPlate : MethodName := ⟨RX5, "isPlate", "(I)Z"⟩
abbrev cX5_isMotif : ByteArray := prog_1_method_37_code
def yX5_isMotif : MethodName := ⟨RX5, "isMotif", "(I)Z"⟩
abbrev cX5_areTwoPlates : ByteArray := prog_1_method_38_code
def yX5_areTwoPlates : MethodName := ⟨RX5, "areTwoPlates", "(II)Z"⟩
abbrev cX5_isSet : ByteArray := prog_1_method_39_code
def yX5_isSet : MethodName := ⟨RX5, "isSet", "(I)Z"⟩
abbrev cX5_platePoint : ByteArray := prog_1_method_40_code
def yX5_platePoint : MethodName := ⟨RX5, "platePoint", "(I)I"⟩
abbrev cX5_motifPoint : ByteArray := prog_1_method_41_code
def yX5_motifPoint : MethodName := ⟨RX5, "motifPoint", "(IZ)I"⟩
abbrev cX5_tellRange : ByteArray := prog_1_method_42_code
def yX5_tellRange : MethodName := ⟨RX5, "tellRange", "(IIIII)I"⟩
abbrev cX5_endOfSpan : ByteArray := prog_1_method_43_code
def yX5_endOfSpan : MethodName := ⟨RX5, "endOfSpan", "(IZI)I"⟩
def RX6 : String := "PlateRoomModel"
def TX6 : u_T := fun k => match k with
  | 0 => ("PlateRoomModel", "status", "I", false)
  | 1 => ("PlateRoomModel", "thrown", "I", false)
  | 2 => ("PlateRoomModel", "plates", "I", false)
  | 3 => ("PlateRoomModel", "motifs", "I", false)
  | 4 => ("PlateRoomModel", "facts", "I", false)
  | 5 => ("PlateRoomModel", "kind", "[I", true)
  | 6 => ("PlateRoomModel", "first", "[I", true)
  | 7 => ("PlateRoomModel", "second", "[I", true)
  | 8 => ("PlateRoomModel", "third", "[I", true)
  | 9 => ("PlateRoomModel", "told", "[I", true)
  | 10 => ("PlateRoomModel", "crossed", "[I", true)
  | 11 => ("PlateRoomModel", "ways", "I", false)
  | 12 => ("PlateRoomModel", "bounds", "I", false)
  | 13 => ("PlateRoomModel", "wayFrom", "[I", true)
  | 14 => ("PlateRoomModel", "wayTo", "[I", true)
  | 15 => ("PlateRoomModel", "wayMore", "[J", true)
  | 16 => ("PlateRoomModel", "far", "[J", true)
  | 17 => ("PlateRoomModel", "more", "[J", true)
  | 18 => ("PlateRoomModel", "now", "[J", true)
  | 19 => ("PlateRoomModel", "left", "[I", true)
  | 20 => ("PlateRoomModel", "right", "[I", true)
  | 21 => ("PlateRoomModel", "out", "[I", true)
  | 22 => ("PlateRoomModel", "row", "[I", true)
  | 23 => ("PlateRoomModel", "outs", "I", false)
  | 24 => ("PlateRoomModel", "rowMany", "I", false)
  | 25 => ("PlateRoomModel", "excess", "[I", true)
  | 26 => ("PlateRoomModel", "mark", "[I", true)
  | 27 => ("PlateRoomModel", "wanted", "[I", true)
  | 28 => ("PlateRoomModel", "hours", "[I", true)
  | 29 => ("PlateRoomModel", "lost", "[I", true)
  | 30 => ("PlateRoomModel", "order", "[I", true)
  | 31 => ("PlateRoomModel", "fixed", "[I", true)
  | 32 => ("PlateRoomModel", "most", "[I", true)
  | 33 => ("PlateRoomModel", "then", "[I", true)
  | 34 => ("PlateRoomModel", "laws", "I", false)
  | 35 => ("PlateRoomModel", "deaths", "I", false)
  | 36 => ("PlateRoomModel", "lawFrom", "[I", true)
  | 37 => ("PlateRoomModel", "lawDays", "[I", true)
  | 38 => ("PlateRoomModel", "deathOf", "[I", true)
  | 39 => ("PlateRoomModel", "deathDay", "[I", true)
  | _ => ("PlateRoomModel", "deathTold", "[I", true)
def tyX6 : Nat → FieldType := fun k => match k with
  | 0 => .int
  | 1 => .int
  | 2 => .int
  | 3 => .int
  | 4 => .int
  | 5 => .array .int
  | 6 => .array .int
  | 7 => .array .int
  | 8 => .array .int
  | 9 => .array .int
  | 10 => .array .int
  | 11 => .int
  | 12 => .int
  | 13 => .array .int
  | 14 => .array .int
  | 15 => .array .long
  | 16 => .array .long
  | 17 => .array .long
  | 18 => .array .long
  | 19 => .array .int
  | 20 => .array .int
  | 21 => .array .int
  | 22 => .array .int
  | 23 => .int
  | 24 => .int
  | 25 => .array .int
  | 26 => .array .int
  | 27 => .array .int
  | 28 => .array .int
  | 29 => .array .int
  | 30 => .array .int
  | 31 => .array .int
  | 32 => .array .int
  | 33 => .array .int
  | 34 => .int
  | 35 => .int
  | 36 => .array .int
  | 37 => .array .int
  | 38 => .array .int
  | 39 => .array .int
  | _ => .array .int
abbrev wsX60 : List Cond := u_ws RX6 TX6 41
theorem nmX6 : ∀ a, a < 41 → ∀ b, b < 41 → a ≠ b → (TX6 a).2.1 ≠ (TX6 b).2.1 := by decide +kernel
theorem tyX6_ok : ∀ k, k < 41 → parseFieldDescriptor (TX6 k).2.2.1 = some (tyX6 k) := by decide +kernel
abbrev cX6_init : ByteArray := prog_8_method_1_code
def yX6_init : MethodName := ⟨RX6, "<init>", "()V"⟩
abbrev cX6_status : ByteArray := prog_8_method_3_code
def yX6_status : MethodName := ⟨RX6, "status", "()I"⟩
abbrev cX6_refuse : ByteArray := prog_8_method_4_code
def yX6_refuse : MethodName := ⟨RX6, "refuse", "(I)I"⟩
abbrev cX6_no : ByteArray := prog_8_method_5_code
def yX6_no : MethodName := ⟨RX6, "no", "(I)Z"⟩
abbrev cX6_isPlate : ByteArray := prog_8_method_6_code
def yX6_isPlate : MethodName := ⟨RX6, "isPlate", "(I)Z"⟩
abbrev cX6_isMotif : ByteArray := prog_8_method_7_code
def yX6_isMotif : MethodName := ⟨RX6, "isMotif", "(I)Z"⟩
abbrev cX6_isDay : ByteArray := prog_8_method_8_code
def yX6_isDay : MethodName := ⟨RX6, "isDay", "(I)Z"⟩
abbrev cX6_isTime : ByteArray := prog_8_method_9_code
def yX6_isTime : MethodName := ⟨RX6, "isTime", "(I)Z"⟩
abbrev cX6_plate : ByteArray := prog_8_method_10_code
def yX6_plate : MethodName := ⟨RX6, "plate", "()I"⟩
abbrev cX6_motif : ByteArray := prog_8_method_11_code
def yX6_motif : MethodName := ⟨RX6, "motif", "()I"⟩
abbrev cX6_adds : ByteArray := prog_8_method_12_code
def yX6_adds : MethodName := ⟨RX6, "adds", "(IIIII)I"⟩
abbrev cX6_shows : ByteArray := prog_8_method_13_code
def yX6_shows : MethodName := ⟨RX6, "shows", "(III)I"⟩
abbrev cX6_ahead : ByteArray := prog_8_method_14_code
def yX6_ahead : MethodName := ⟨RX6, "ahead", "(IIII)I"⟩
abbrev cX6_same : ByteArray := prog_8_method_15_code
def yX6_same : MethodName := ⟨RX6, "same", "(III)I"⟩
abbrev cX6_taken : ByteArray := prog_8_method_16_code
def yX6_taken : MethodName := ⟨RX6, "taken", "(IIII)I"⟩
abbrev cX6_stood : ByteArray := prog_8_method_17_code
def yX6_stood : MethodName := ⟨RX6, "stood", "(IZIII)I"⟩
abbrev cX6_isFact : ByteArray := prog_8_method_18_code
def yX6_isFact : MethodName := ⟨RX6, "isFact", "(I)Z"⟩
abbrev cX6_cross : ByteArray := prog_8_method_19_code
def yX6_cross : MethodName := ⟨RX6, "cross", "(II)Z"⟩
abbrev cX6_fact : ByteArray := prog_8_method_20_code
def yX6_fact : MethodName := ⟨RX6, "fact", "(II)I"⟩
abbrev cX6_isKnown : ByteArray := prog_8_method_21_code
def yX6_isKnown : MethodName := ⟨RX6, "isKnown", "(II)Z"⟩
abbrev cX6_placeOf : ByteArray := prog_8_method_22_code
def yX6_placeOf : MethodName := ⟨RX6, "placeOf", "(I)I"⟩
abbrev cX6_begins : ByteArray := prog_8_method_23_code
def yX6_begins : MethodName := ⟨RX6, "begins", "(I)I"⟩
abbrev cX6_endsAt : ByteArray := prog_8_method_24_code
def yX6_endsAt : MethodName := ⟨RX6, "endsAt", "(I)I"⟩
abbrev cX6_way : ByteArray := prog_8_method_25_code
def yX6_way : MethodName := ⟨RX6, "way", "(IIJ)V"⟩
abbrev cX6_bound : ByteArray := prog_8_method_26_code
def yX6_bound : MethodName := ⟨RX6, "bound", "(I)V"⟩
abbrev cX6_within : ByteArray := prog_8_method_27_code
def yX6_within : MethodName := ⟨RX6, "within", "(III)V"⟩
abbrev cX6_net : ByteArray := prog_8_method_28_code
def yX6_net : MethodName := ⟨RX6, "net", "(II)V"⟩
abbrev cX6_goes : ByteArray := prog_8_method_29_code
def yX6_goes : MethodName := ⟨RX6, "goes", "(I)Z"⟩
abbrev cX6_spanOf : ByteArray := prog_8_method_30_code
def yX6_spanOf : MethodName := ⟨RX6, "spanOf", "(IZI)I"⟩
abbrev cX6_span : ByteArray := prog_8_method_31_code
def yX6_span : MethodName := ⟨RX6, "span", "(IZI)I"⟩
abbrev cX6_times : ByteArray := prog_8_method_32_code
def yX6_times : MethodName := ⟨RX6, "times", "(IZZI)I"⟩
abbrev cX6_quarrel : ByteArray := prog_8_method_33_code
def yX6_quarrel : MethodName := ⟨RX6, "quarrel", "(I)I"⟩
abbrev cX6_longer : ByteArray := prog_8_method_34_code
def yX6_longer : MethodName := ⟨RX6, "longer", "(I)V"⟩
abbrev cX6_frees : ByteArray := prog_8_method_35_code
def yX6_frees : MethodName := ⟨RX6, "frees", "(II)I"⟩
abbrev cX6_order : ByteArray := prog_8_method_36_code
def yX6_order : MethodName := ⟨RX6, "order", "(III)I"⟩
abbrev cX6_edges : ByteArray := prog_8_method_37_code
def yX6_edges : MethodName := ⟨RX6, "edges", "(III)Z"⟩
abbrev cX6_leftOf : ByteArray := prog_8_method_38_code
def yX6_leftOf : MethodName := ⟨RX6, "leftOf", "(I)I"⟩
abbrev cX6_rightOf : ByteArray := prog_8_method_39_code
def yX6_rightOf : MethodName := ⟨RX6, "rightOf", "(I)I"⟩
abbrev cX6_isSet : ByteArray := prog_8_method_40_code
def yX6_isSet : MethodName := ⟨RX6, "isSet", "(I)Z"⟩
abbrev cX6_marks : ByteArray := prog_8_method_41_code
def yX6_marks : MethodName := ⟨RX6, "marks", "(I)V"⟩
abbrev cX6_counts : ByteArray := prog_8_method_42_code
def yX6_counts : MethodName := ⟨RX6, "counts", "(I)V"⟩
abbrev cX6_hasRow : ByteArray := prog_8_method_43_code
def yX6_hasRow : MethodName := ⟨RX6, "hasRow", "(II)Z"⟩
abbrev cX6_finds : ByteArray := prog_8_method_44_code
def yX6_finds : MethodName := ⟨RX6, "finds", "(I)Z"⟩
abbrev cX6_isNext : ByteArray := prog_8_method_45_code
def yX6_isNext : MethodName := ⟨RX6, "isNext", "(III)Z"⟩
abbrev cX6_row : ByteArray := prog_8_method_46_code
def yX6_row : MethodName := ⟨RX6, "row", "(I)I"⟩
abbrev cX6_ring : ByteArray := prog_8_method_47_code
def yX6_ring : MethodName := ⟨RX6, "ring", "(I)I"⟩
abbrev cX6_rows : ByteArray := prog_8_method_48_code
def yX6_rows : MethodName := ⟨RX6, "rows", "(I)I"⟩
abbrev cX6_isEdge : ByteArray := prog_8_method_49_code
def yX6_isEdge : MethodName := ⟨RX6, "isEdge", "(II)Z"⟩
abbrev cX6_out : ByteArray := prog_8_method_50_code
def yX6_out : MethodName := ⟨RX6, "out", "(I)I"⟩
abbrev cX6_want : ByteArray := prog_8_method_51_code
def yX6_want : MethodName := ⟨RX6, "want", "(IIII)Z"⟩
abbrev cX6_orders : ByteArray := prog_8_method_52_code
def yX6_orders : MethodName := ⟨RX6, "orders", "()V"⟩
abbrev cX6_mostOf : ByteArray := prog_8_method_53_code
def yX6_mostOf : MethodName := ⟨RX6, "mostOf", "()I"⟩
abbrev cX6_chooses : ByteArray := prog_8_method_54_code
def yX6_chooses : MethodName := ⟨RX6, "chooses", "()I"⟩
abbrev cX6_best : ByteArray := prog_8_method_55_code
def yX6_best : MethodName := ⟨RX6, "best", "()I"⟩
abbrev cX6_hour : ByteArray := prog_8_method_56_code
def yX6_hour : MethodName := ⟨RX6, "hour", "(I)I"⟩
abbrev cX6_law : ByteArray := prog_8_method_57_code
def yX6_law : MethodName := ⟨RX6, "law", "(II)Z"⟩
abbrev cX6_death : ByteArray := prog_8_method_58_code
def yX6_death : MethodName := ⟨RX6, "death", "(III)Z"⟩
abbrev cX6_free : ByteArray := prog_8_method_59_code
def yX6_free : MethodName := ⟨RX6, "free", "(III)I"⟩
def RJ6 : String := "java/lang/Integer"
def TJ6 : u_T := fun k => match k with
  | _ => ("", "", "", false)
def tyJ6 : Nat → FieldType := fun k => match k with
  | _ => .int
abbrev wsJ60 : List Cond := u_ws RJ6 TJ6 0
theorem nmJ6 : ∀ a, a < 0 → ∀ b, b < 0 → a ≠ b → (TJ6 a).2.1 ≠ (TJ6 b).2.1 := by decide +kernel
theorem tyJ6_ok : ∀ k, k < 0 → parseFieldDescriptor (TJ6 k).2.2.1 = some (tyJ6 k) := by decide +kernel
abbrev cJ6_bitCount_0f7a4 : ByteArray := prog_9_method_49_code
def yJ6_bitCount_0f7a4 : MethodName := ⟨RJ6, "bitCount", "(I)I"⟩
def RJ9 : String := "java/lang/Math"
def TJ9 : u_T := fun k => match k with
  | _ => ("", "", "", false)
def tyJ9 : Nat → FieldType := fun k => match k with
  | _ => .int
abbrev wsJ90 : List Cond := u_ws RJ9 TJ9 0
theorem nmJ9 : ∀ a, a < 0 → ∀ b, b < 0 → a ≠ b → (TJ9 a).2.1 ≠ (TJ9 b).2.1 := by decide +kernel
theorem tyJ9_ok : ∀ k, k < 0 → parseFieldDescriptor (TJ9 k).2.2.1 = some (tyJ9 k) := by decide +kernel
abbrev cJ9_max_7cf53 : ByteArray := prog_10_method_65_code
def yJ9_max_7cf53 : MethodName := ⟨RJ9, "max", "(II)I"⟩
abbrev cJ9_max_f86c9 : ByteArray := prog_10_method_66_code
def yJ9_max_f86c9 : MethodName := ⟨RJ9, "max", "(JJ)J"⟩
abbrev cJ9_min_7cf53 : ByteArray := prog_10_method_69_code
def yJ9_min_7cf53 : MethodName := ⟨RJ9, "min", "(II)I"⟩
def RJ10 : String := "java/lang/System"
def TJ10 : u_T := fun k => match k with
  | _ => ("", "", "", false)
def tyJ10 : Nat → FieldType := fun k => match k with
  | _ => .int
abbrev wsJ100 : List Cond := u_ws RJ10 TJ10 0
theorem nmJ10 : ∀ a, a < 0 → ∀ b, b < 0 → a ≠ b → (TJ10 a).2.1 ≠ (TJ10 b).2.1 := by decide +kernel
theorem tyJ10_ok : ∀ k, k < 0 → parseFieldDescriptor (TJ10 k).2.2.1 = some (tyJ10 k) := by decide +kernel
def RJ7 : String := "java/util/Arrays"
def TJ7 : u_T := fun k => match k with
  | _ => ("", "", "", false)
def tyJ7 : Nat → FieldType := fun k => match k with
  | _ => .int
abbrev wsJ70 : List Cond := u_ws RJ7 TJ7 0
theorem nmJ7 : ∀ a, a < 0 → ∀ b, b < 0 → a ≠ b → (TJ7 a).2.1 ≠ (TJ7 b).2.1 := by decide +kernel
theorem tyJ7_ok : ∀ k, k < 0 → parseFieldDescriptor (TJ7 k).2.2.1 = some (tyJ7 k) := by decide +kernel
abbrev cJ7_fill_d0a16 : ByteArray := prog_12_method_101_code
def yJ7_fill_d0a16 : MethodName := ⟨RJ7, "fill", "([JJ)V"⟩
abbrev cJ7_fill_53178 : ByteArray := prog_12_method_103_code
def yJ7_fill_53178 : MethodName := ⟨RJ7, "fill", "([II)V"⟩
def RL : String := "PlateRoomLaw"
abbrev cL_law : ByteArray := code
def yL_law : MethodName := ⟨RL, "law", "([I)Z"⟩
def wsJ7_fill_53178 : List Cond := .code yJ7_fill_53178 cJ7_fill_53178 4 none :: ([])
def wsX0_init : List Cond := .code yX0_init cX0_init 1 none :: ([.methodLink RX0 3 objectInit, .instanceMethod objectInit, .code objectInit ⟨#[0xb1]⟩ 1 none, .arrayClass .int, .fieldLink RX0 9 "PlateRoom$CopyPlan" "wanted" "[I", .fieldLink RX0 15 "PlateRoom$CopyPlan" "hours" "[I", .fieldLink RX0 18 "PlateRoom$CopyPlan" "lost" "[I", .fieldLink RX0 21 "PlateRoom$CopyPlan" "turns" "[I", .arrayClass .long, .fieldLink RX0 24 "PlateRoom$CopyPlan" "worths" "[J", .methodLink RX0 28 yJ7_fill_53178, .static yJ7_fill_53178, .initialized RJ7, .code yJ7_fill_53178 cJ7_fill_53178 4 none] ++ wsX00)
def wsX0_setWish : List Cond := .code yX0_setWish cX0_setWish 5 none :: ([.fieldLink RX0 9 "PlateRoom$CopyPlan" "wanted" "[I", .fieldLink RX0 15 "PlateRoom$CopyPlan" "hours" "[I", .fieldLink RX0 18 "PlateRoom$CopyPlan" "lost" "[I"] ++ wsX00)
def wsX0_sortTurns : List Cond := .code yX0_sortTurns cX0_sortTurns 4 none :: ([.fieldLink RX0 18 "PlateRoom$CopyPlan" "lost" "[I", .fieldLink RX0 21 "PlateRoom$CopyPlan" "turns" "[I"] ++ wsX00)
def wsJ7_fill_d0a16 : List Cond := .code yJ7_fill_d0a16 cJ7_fill_d0a16 5 none :: ([])
def wsX0_bitOf : List Cond := .code yX0_bitOf cX0_bitOf 1 (some .long) :: ([])
def wsX0_worthOf : List Cond := .code yX0_worthOf cX0_worthOf 2 (some .long) :: ([.fieldLink RX0 9 "PlateRoom$CopyPlan" "wanted" "[I", .methodLink RX0 65 yX0_bitOf, .static yX0_bitOf, .initialized RX0, .code yX0_bitOf cX0_bitOf 1 (some .long)] ++ wsX00)
def wsX0_offer : List Cond := .code yX0_offer cX0_offer 6 none :: ([.methodLink RX0 34 Lib.Math.min.name, .static Lib.Math.min.name, .initialized "java/lang/Math", .code Lib.Math.min.name Lib.Math.min.code 2 (some .int), .fieldLink RX0 15 "PlateRoom$CopyPlan" "hours" "[I", .fieldLink RX0 24 "PlateRoom$CopyPlan" "worths" "[J", .constantLong RX0 44 (-1), .methodLink RX0 57 Lib.MathLoose.max_long.x, .static Lib.MathLoose.max_long.x, .code Lib.MathLoose.max_long.x Lib.MathLoose.max_long.code 4 (some .long), .methodLink RX0 61 yX0_worthOf, .instanceMethod yX0_worthOf, .selects RX0 yX0_worthOf yX0_worthOf, .initialized RX0, .code yX0_worthOf cX0_worthOf 2 (some .long), .fieldLink RX0 9 "PlateRoom$CopyPlan" "wanted" "[I", .methodLink RX0 65 yX0_bitOf, .static yX0_bitOf, .code yX0_bitOf cX0_bitOf 1 (some .long)] ++ wsX00)
def wsX0_choose_r1 : List Cond := [Cond.methodLink RX0 34 Lib.Math.min.name, Cond.static Lib.Math.min.name, Cond.initialized "java/lang/Math", Cond.code Lib.Math.min.name Lib.Math.min.code 2 (some .int), Cond.fieldLink RX0 24 "PlateRoom$CopyPlan" "worths" "[J", Cond.constantLong RX0 44 (-1), Cond.fieldLink RX0 21 "PlateRoom$CopyPlan" "turns" "[I", Cond.fieldLink RX0 15 "PlateRoom$CopyPlan" "hours" "[I", Cond.fieldLink RX0 18 "PlateRoom$CopyPlan" "lost" "[I", Cond.fieldLink RX0 53 "PlateRoom$CopyPlan" "bestWorth" "J", Cond.methodLink RX0 57 Lib.MathLoose.max_long.x, Cond.static Lib.MathLoose.max_long.x, Cond.code Lib.MathLoose.max_long.x Lib.MathLoose.max_long.code 4 (some .long), Cond.methodLink RX0 40 yX0_sortTurns, Cond.instanceMethod yX0_sortTurns, Cond.selects RX0 yX0_sortTurns yX0_sortTurns, Cond.initialized RX0, Cond.code yX0_sortTurns cX0_sortTurns 4 none, Cond.methodLink RX0 46 yJ7_fill_d0a16, Cond.static yJ7_fill_d0a16, Cond.initialized RJ7, Cond.code yJ7_fill_d0a16 cJ7_fill_d0a16 5 none, Cond.methodLink RX0 49 yX0_offer, Cond.instanceMethod yX0_offer]
def wsX0_choose_r2 : List Cond := [Cond.selects RX0 yX0_offer yX0_offer, Cond.code yX0_offer cX0_offer 6 none, Cond.methodLink RX0 61 yX0_worthOf, Cond.instanceMethod yX0_worthOf, Cond.selects RX0 yX0_worthOf yX0_worthOf, Cond.code yX0_worthOf cX0_worthOf 2 (some .long), Cond.fieldLink RX0 9 "PlateRoom$CopyPlan" "wanted" "[I", Cond.methodLink RX0 65 yX0_bitOf, Cond.static yX0_bitOf, Cond.code yX0_bitOf cX0_bitOf 1 (some .long)]
def wsX0_choose : List Cond := .code yX0_choose cX0_choose 6 none :: ((wsX0_choose_r1 ++ wsX0_choose_r2) ++ wsX00)
def wsX0_wantedTogether : List Cond := .code yX0_wantedTogether cX0_wantedTogether 1 (some .int) :: ([.fieldLink RX0 53 "PlateRoom$CopyPlan" "bestWorth" "J"] ++ wsX00)
def wsX0_isChosen : List Cond := .code yX0_isChosen cX0_isChosen 2 (some .boolean) :: ([.fieldLink RX0 53 "PlateRoom$CopyPlan" "bestWorth" "J", .methodLink RX0 65 yX0_bitOf, .static yX0_bitOf, .initialized RX0, .code yX0_bitOf cX0_bitOf 1 (some .long)] ++ wsX00)
def wsX0_beginningOf : List Cond := .code yX0_beginningOf cX0_beginningOf 6 (some .int) :: ([.fieldLink RX0 21 "PlateRoom$CopyPlan" "turns" "[I", .fieldLink RX0 15 "PlateRoom$CopyPlan" "hours" "[I", .methodLink RX0 68 yX0_isChosen, .instanceMethod yX0_isChosen, .selects RX0 yX0_isChosen yX0_isChosen, .initialized RX0, .code yX0_isChosen cX0_isChosen 2 (some .boolean), .fieldLink RX0 53 "PlateRoom$CopyPlan" "bestWorth" "J", .methodLink RX0 65 yX0_bitOf, .static yX0_bitOf, .code yX0_bitOf cX0_bitOf 1 (some .long)] ++ wsX00)
def wsX1_fits : List Cond := .code yX1_fits cX1_fits 2 (some .boolean) :: ([])
def wsX1_compare : List Cond := .code yX1_compare cX1_compare 4 none :: ([.fieldLink RX1 18 "PlateRoom$EdgeTable" "likeLeft" "[I", .fieldLink RX1 21 "PlateRoom$EdgeTable" "leftOf" "[I", .fieldLink RX1 24 "PlateRoom$EdgeTable" "rightOf" "[I", .fieldLink RX1 9 "PlateRoom$EdgeTable" "lefts" "[I", .fieldLink RX1 15 "PlateRoom$EdgeTable" "rights" "[I", .methodLink RX1 31 yX1_fits, .static yX1_fits, .initialized RX1, .code yX1_fits cX1_fits 2 (some .boolean)] ++ wsX10)
def wsX1_init : List Cond := .code yX1_init cX1_init 2 none :: ([.methodLink RX1 3 objectInit, .instanceMethod objectInit, .code objectInit ⟨#[0xb1]⟩ 1 none, .arrayClass .int, .fieldLink RX1 9 "PlateRoom$EdgeTable" "lefts" "[I", .fieldLink RX1 15 "PlateRoom$EdgeTable" "rights" "[I", .fieldLink RX1 18 "PlateRoom$EdgeTable" "likeLeft" "[I", .fieldLink RX1 21 "PlateRoom$EdgeTable" "leftOf" "[I", .fieldLink RX1 24 "PlateRoom$EdgeTable" "rightOf" "[I", .methodLink RX1 27 yX1_compare, .instanceMethod yX1_compare, .selects RX1 yX1_compare yX1_compare, .initialized RX1, .code yX1_compare cX1_compare 4 none, .methodLink RX1 31 yX1_fits, .static yX1_fits, .code yX1_fits cX1_fits 2 (some .boolean)] ++ wsX10)
def wsX1_setEdges : List Cond := .code yX1_setEdges cX1_setEdges 5 none :: ([.fieldLink RX1 9 "PlateRoom$EdgeTable" "lefts" "[I", .fieldLink RX1 15 "PlateRoom$EdgeTable" "rights" "[I", .methodLink RX1 27 yX1_compare, .instanceMethod yX1_compare, .selects RX1 yX1_compare yX1_compare, .initialized RX1, .code yX1_compare cX1_compare 4 none, .fieldLink RX1 18 "PlateRoom$EdgeTable" "likeLeft" "[I", .fieldLink RX1 21 "PlateRoom$EdgeTable" "leftOf" "[I", .fieldLink RX1 24 "PlateRoom$EdgeTable" "rightOf" "[I", .methodLink RX1 31 yX1_fits, .static yX1_fits, .code yX1_fits cX1_fits 2 (some .boolean)] ++ wsX10)
def wsX1_holds : List Cond := .code yX1_holds cX1_holds 2 (some .boolean) :: ([])
def wsJ6_bitCount_0f7a4 : List Cond := .code yJ6_bitCount_0f7a4 cJ6_bitCount_0f7a4 1 (some .int) :: ([.constant RJ6 265 (1431655765), .constant RJ6 266 (858993459), .constant RJ6 267 (252645135)])
def wsX1_missingLeftOf : List Cond := .code yX1_missingLeftOf cX1_missingLeftOf 3 (some .int) :: ([.fieldLink RX1 18 "PlateRoom$EdgeTable" "likeLeft" "[I", .fieldLink RX1 21 "PlateRoom$EdgeTable" "leftOf" "[I", .methodLink RX1 41 Lib.Math.max.name, .static Lib.Math.max.name, .initialized "java/lang/Math", .code Lib.Math.max.name Lib.Math.max.code 2 (some .int), .methodLink RX1 35 yJ6_bitCount_0f7a4, .static yJ6_bitCount_0f7a4, .initialized RJ6, .code yJ6_bitCount_0f7a4 cJ6_bitCount_0f7a4 1 (some .int), .constant RJ6 265 (1431655765), .constant RJ6 266 (858993459), .constant RJ6 267 (252645135)] ++ wsX10)
def wsX1_startsIn : List Cond := .code yX1_startsIn cX1_startsIn 5 (some .int) :: ([.fieldLink RX1 18 "PlateRoom$EdgeTable" "likeLeft" "[I", .methodLink RX1 47 yX1_holds, .static yX1_holds, .initialized RX1, .code yX1_holds cX1_holds 2 (some .boolean), .methodLink RX1 50 yX1_missingLeftOf, .instanceMethod yX1_missingLeftOf, .selects RX1 yX1_missingLeftOf yX1_missingLeftOf, .code yX1_missingLeftOf cX1_missingLeftOf 3 (some .int), .fieldLink RX1 21 "PlateRoom$EdgeTable" "leftOf" "[I", .methodLink RX1 41 Lib.Math.max.name, .static Lib.Math.max.name, .initialized "java/lang/Math", .code Lib.Math.max.name Lib.Math.max.code 2 (some .int), .methodLink RX1 35 yJ6_bitCount_0f7a4, .static yJ6_bitCount_0f7a4, .initialized RJ6, .code yJ6_bitCount_0f7a4 cJ6_bitCount_0f7a4 1 (some .int), .constant RJ6 265 (1431655765), .constant RJ6 266 (858993459), .constant RJ6 267 (252645135)] ++ wsX10)
def wsX1_partOf : List Cond := .code yX1_partOf cX1_partOf 6 (some .int) :: ([.fieldLink RX1 21 "PlateRoom$EdgeTable" "leftOf" "[I", .fieldLink RX1 24 "PlateRoom$EdgeTable" "rightOf" "[I", .methodLink RX1 47 yX1_holds, .static yX1_holds, .initialized RX1, .code yX1_holds cX1_holds 2 (some .boolean)] ++ wsX10)
def wsX1_fewestRows_r1 : List Cond := [Cond.methodLink RX1 41 Lib.Math.max.name, Cond.static Lib.Math.max.name, Cond.initialized "java/lang/Math", Cond.code Lib.Math.max.name Lib.Math.max.code 2 (some .int), Cond.methodLink RX1 53 yX1_partOf, Cond.instanceMethod yX1_partOf, Cond.selects RX1 yX1_partOf yX1_partOf, Cond.initialized RX1, Cond.code yX1_partOf cX1_partOf 6 (some .int), Cond.fieldLink RX1 21 "PlateRoom$EdgeTable" "leftOf" "[I", Cond.fieldLink RX1 24 "PlateRoom$EdgeTable" "rightOf" "[I", Cond.methodLink RX1 47 yX1_holds, Cond.static yX1_holds, Cond.code yX1_holds cX1_holds 2 (some .boolean), Cond.methodLink RX1 56 yX1_startsIn, Cond.instanceMethod yX1_startsIn, Cond.selects RX1 yX1_startsIn yX1_startsIn, Cond.code yX1_startsIn cX1_startsIn 5 (some .int), Cond.fieldLink RX1 18 "PlateRoom$EdgeTable" "likeLeft" "[I", Cond.methodLink RX1 50 yX1_missingLeftOf, Cond.instanceMethod yX1_missingLeftOf, Cond.selects RX1 yX1_missingLeftOf yX1_missingLeftOf, Cond.code yX1_missingLeftOf cX1_missingLeftOf 3 (some .int), Cond.methodLink RX1 35 yJ6_bitCount_0f7a4]
def wsX1_fewestRows_r2 : List Cond := [Cond.static yJ6_bitCount_0f7a4, Cond.initialized RJ6, Cond.code yJ6_bitCount_0f7a4 cJ6_bitCount_0f7a4 1 (some .int), Cond.constant RJ6 265 (1431655765), Cond.constant RJ6 266 (858993459), Cond.constant RJ6 267 (252645135)]
def wsX1_fewestRows : List Cond := .code yX1_fewestRows cX1_fewestRows 6 (some .int) :: ((wsX1_fewestRows_r1 ++ wsX1_fewestRows_r2) ++ wsX10)
def wsX1_firstPlaces_r1 : List Cond := [Cond.methodLink RX1 56 yX1_startsIn, Cond.instanceMethod yX1_startsIn, Cond.selects RX1 yX1_startsIn yX1_startsIn, Cond.initialized RX1, Cond.code yX1_startsIn cX1_startsIn 5 (some .int), Cond.fieldLink RX1 18 "PlateRoom$EdgeTable" "likeLeft" "[I", Cond.methodLink RX1 47 yX1_holds, Cond.static yX1_holds, Cond.code yX1_holds cX1_holds 2 (some .boolean), Cond.methodLink RX1 50 yX1_missingLeftOf, Cond.instanceMethod yX1_missingLeftOf, Cond.selects RX1 yX1_missingLeftOf yX1_missingLeftOf, Cond.code yX1_missingLeftOf cX1_missingLeftOf 3 (some .int), Cond.fieldLink RX1 21 "PlateRoom$EdgeTable" "leftOf" "[I", Cond.methodLink RX1 41 Lib.Math.max.name, Cond.static Lib.Math.max.name, Cond.initialized "java/lang/Math", Cond.code Lib.Math.max.name Lib.Math.max.code 2 (some .int), Cond.methodLink RX1 35 yJ6_bitCount_0f7a4, Cond.static yJ6_bitCount_0f7a4, Cond.initialized RJ6, Cond.code yJ6_bitCount_0f7a4 cJ6_bitCount_0f7a4 1 (some .int), Cond.constant RJ6 265 (1431655765), Cond.constant RJ6 266 (858993459)]
def wsX1_firstPlaces_r2 : List Cond := [Cond.constant RJ6 267 (252645135)]
def wsX1_firstPlaces : List Cond := .code yX1_firstPlaces cX1_firstPlaces 4 (some .int) :: ((wsX1_firstPlaces_r1 ++ wsX1_firstPlaces_r2) ++ wsX10)
def wsX1_goesOn : List Cond := .code yX1_goesOn cX1_goesOn 3 (some .boolean) :: ([.fieldLink RX1 24 "PlateRoom$EdgeTable" "rightOf" "[I", .methodLink RX1 53 yX1_partOf, .instanceMethod yX1_partOf, .selects RX1 yX1_partOf yX1_partOf, .initialized RX1, .code yX1_partOf cX1_partOf 6 (some .int), .fieldLink RX1 21 "PlateRoom$EdgeTable" "leftOf" "[I", .methodLink RX1 47 yX1_holds, .static yX1_holds, .code yX1_holds cX1_holds 2 (some .boolean)] ++ wsX10)
def wsX1_leastThatGoesOn : List Cond := .code yX1_leastThatGoesOn cX1_leastThatGoesOn 4 (some .int) :: ([.methodLink RX1 47 yX1_holds, .static yX1_holds, .initialized RX1, .code yX1_holds cX1_holds 2 (some .boolean), .methodLink RX1 65 yX1_goesOn, .instanceMethod yX1_goesOn, .selects RX1 yX1_goesOn yX1_goesOn, .code yX1_goesOn cX1_goesOn 3 (some .boolean), .fieldLink RX1 24 "PlateRoom$EdgeTable" "rightOf" "[I", .methodLink RX1 53 yX1_partOf, .instanceMethod yX1_partOf, .selects RX1 yX1_partOf yX1_partOf, .code yX1_partOf cX1_partOf 6 (some .int), .fieldLink RX1 21 "PlateRoom$EdgeTable" "leftOf" "[I"] ++ wsX10)
def wsX1_writeFirstRow_r1 : List Cond := [Cond.fieldLink RX1 24 "PlateRoom$EdgeTable" "rightOf" "[I", Cond.methodLink RX1 59 yX1_firstPlaces, Cond.instanceMethod yX1_firstPlaces, Cond.selects RX1 yX1_firstPlaces yX1_firstPlaces, Cond.initialized RX1, Cond.code yX1_firstPlaces cX1_firstPlaces 4 (some .int), Cond.methodLink RX1 56 yX1_startsIn, Cond.instanceMethod yX1_startsIn, Cond.selects RX1 yX1_startsIn yX1_startsIn, Cond.code yX1_startsIn cX1_startsIn 5 (some .int), Cond.fieldLink RX1 18 "PlateRoom$EdgeTable" "likeLeft" "[I", Cond.methodLink RX1 47 yX1_holds, Cond.static yX1_holds, Cond.code yX1_holds cX1_holds 2 (some .boolean), Cond.methodLink RX1 50 yX1_missingLeftOf, Cond.instanceMethod yX1_missingLeftOf, Cond.selects RX1 yX1_missingLeftOf yX1_missingLeftOf, Cond.code yX1_missingLeftOf cX1_missingLeftOf 3 (some .int), Cond.fieldLink RX1 21 "PlateRoom$EdgeTable" "leftOf" "[I", Cond.methodLink RX1 41 Lib.Math.max.name, Cond.static Lib.Math.max.name, Cond.initialized "java/lang/Math", Cond.code Lib.Math.max.name Lib.Math.max.code 2 (some .int), Cond.methodLink RX1 35 yJ6_bitCount_0f7a4]
def wsX1_writeFirstRow_r2 : List Cond := [Cond.static yJ6_bitCount_0f7a4, Cond.initialized RJ6, Cond.code yJ6_bitCount_0f7a4 cJ6_bitCount_0f7a4 1 (some .int), Cond.constant RJ6 265 (1431655765), Cond.constant RJ6 266 (858993459), Cond.constant RJ6 267 (252645135), Cond.methodLink RX1 62 yX1_leastThatGoesOn, Cond.instanceMethod yX1_leastThatGoesOn, Cond.selects RX1 yX1_leastThatGoesOn yX1_leastThatGoesOn, Cond.code yX1_leastThatGoesOn cX1_leastThatGoesOn 4 (some .int), Cond.methodLink RX1 65 yX1_goesOn, Cond.instanceMethod yX1_goesOn, Cond.selects RX1 yX1_goesOn yX1_goesOn, Cond.code yX1_goesOn cX1_goesOn 3 (some .boolean), Cond.methodLink RX1 53 yX1_partOf, Cond.instanceMethod yX1_partOf, Cond.selects RX1 yX1_partOf yX1_partOf, Cond.code yX1_partOf cX1_partOf 6 (some .int)]
def wsX1_writeFirstRow : List Cond := .code yX1_writeFirstRow cX1_writeFirstRow 7 (some .int) :: ((wsX1_writeFirstRow_r1 ++ wsX1_writeFirstRow_r2) ++ wsX10)
def wsX2_init : List Cond := .code yX2_init cX2_init 1 none :: ([.methodLink RX2 3 objectInit, .instanceMethod objectInit, .code objectInit ⟨#[0xb1]⟩ 1 none, .arrayClass .int, .fieldLink RX2 9 "PlateRoom$FactBook" "kinds" "[I", .fieldLink RX2 15 "PlateRoom$FactBook" "toldOn" "[I", .fieldLink RX2 18 "PlateRoom$FactBook" "crossedOn" "[I", .fieldLink RX2 21 "PlateRoom$FactBook" "limitCounts" "[I", .fieldLink RX2 24 "PlateRoom$FactBook" "tails" "[I", .fieldLink RX2 27 "PlateRoom$FactBook" "heads" "[I", .fieldLink RX2 30 "PlateRoom$FactBook" "lengths" "[I"] ++ wsX20)
def wsX2_isFull : List Cond := .code yX2_isFull cX2_isFull 1 (some .boolean) :: ([.fieldLink RX2 33 "PlateRoom$FactBook" "count" "I"] ++ wsX20)
def wsX2_size : List Cond := .code yX2_size cX2_size 1 (some .int) :: ([.fieldLink RX2 33 "PlateRoom$FactBook" "count" "I"] ++ wsX20)
def wsX2_has : List Cond := .code yX2_has cX2_has 2 (some .boolean) :: ([.fieldLink RX2 33 "PlateRoom$FactBook" "count" "I"] ++ wsX20)
def wsX2_tell : List Cond := .code yX2_tell cX2_tell 3 (some .int) :: ([.fieldLink RX2 9 "PlateRoom$FactBook" "kinds" "[I", .fieldLink RX2 33 "PlateRoom$FactBook" "count" "I", .fieldLink RX2 15 "PlateRoom$FactBook" "toldOn" "[I", .fieldLink RX2 18 "PlateRoom$FactBook" "crossedOn" "[I", .methodLink RX2 37 yX2_isFull, .instanceMethod yX2_isFull, .selects RX2 yX2_isFull yX2_isFull, .initialized RX2, .code yX2_isFull cX2_isFull 1 (some .boolean)] ++ wsX20)
def wsX2_addLimit : List Cond := .code yX2_addLimit cX2_addLimit 6 none :: ([.fieldLink RX2 33 "PlateRoom$FactBook" "count" "I", .fieldLink RX2 21 "PlateRoom$FactBook" "limitCounts" "[I", .fieldLink RX2 24 "PlateRoom$FactBook" "tails" "[I", .fieldLink RX2 27 "PlateRoom$FactBook" "heads" "[I", .fieldLink RX2 30 "PlateRoom$FactBook" "lengths" "[I"] ++ wsX20)
def wsX2_crossOut : List Cond := .code yX2_crossOut cX2_crossOut 3 none :: ([.fieldLink RX2 18 "PlateRoom$FactBook" "crossedOn" "[I", .methodLink RX2 41 yX2_has, .instanceMethod yX2_has, .selects RX2 yX2_has yX2_has, .initialized RX2, .code yX2_has cX2_has 2 (some .boolean), .fieldLink RX2 33 "PlateRoom$FactBook" "count" "I"] ++ wsX20)
def wsX2_kindOf : List Cond := .code yX2_kindOf cX2_kindOf 2 (some .int) :: ([.fieldLink RX2 9 "PlateRoom$FactBook" "kinds" "[I", .methodLink RX2 41 yX2_has, .instanceMethod yX2_has, .selects RX2 yX2_has yX2_has, .initialized RX2, .code yX2_has cX2_has 2 (some .boolean), .fieldLink RX2 33 "PlateRoom$FactBook" "count" "I"] ++ wsX20)
def wsX2_tellingDay : List Cond := .code yX2_tellingDay cX2_tellingDay 2 (some .int) :: ([.fieldLink RX2 15 "PlateRoom$FactBook" "toldOn" "[I", .methodLink RX2 41 yX2_has, .instanceMethod yX2_has, .selects RX2 yX2_has yX2_has, .initialized RX2, .code yX2_has cX2_has 2 (some .boolean), .fieldLink RX2 33 "PlateRoom$FactBook" "count" "I"] ++ wsX20)
def wsX2_crossingDay : List Cond := .code yX2_crossingDay cX2_crossingDay 2 (some .int) :: ([.fieldLink RX2 18 "PlateRoom$FactBook" "crossedOn" "[I", .methodLink RX2 41 yX2_has, .instanceMethod yX2_has, .selects RX2 yX2_has yX2_has, .initialized RX2, .code yX2_has cX2_has 2 (some .boolean), .fieldLink RX2 33 "PlateRoom$FactBook" "count" "I"] ++ wsX20)
def wsX2_limitsOf : List Cond := .code yX2_limitsOf cX2_limitsOf 2 (some .int) :: ([.fieldLink RX2 21 "PlateRoom$FactBook" "limitCounts" "[I", .methodLink RX2 41 yX2_has, .instanceMethod yX2_has, .selects RX2 yX2_has yX2_has, .initialized RX2, .code yX2_has cX2_has 2 (some .boolean), .fieldLink RX2 33 "PlateRoom$FactBook" "count" "I"] ++ wsX20)
def wsX2_isKnown : List Cond := .code yX2_isKnown cX2_isKnown 3 (some .boolean) :: ([.fieldLink RX2 15 "PlateRoom$FactBook" "toldOn" "[I", .fieldLink RX2 18 "PlateRoom$FactBook" "crossedOn" "[I", .methodLink RX2 41 yX2_has, .instanceMethod yX2_has, .selects RX2 yX2_has yX2_has, .initialized RX2, .code yX2_has cX2_has 2 (some .boolean), .fieldLink RX2 33 "PlateRoom$FactBook" "count" "I"] ++ wsX20)
def wsX4_setLimit : List Cond := .code yX4_setLimit cX4_setLimit 5 none :: ([.fieldLink RX4 9 "PlateRoom$TimeGraph" "tails" "[I", .fieldLink RX4 15 "PlateRoom$TimeGraph" "heads" "[I", .fieldLink RX4 18 "PlateRoom$TimeGraph" "lengths" "[I"] ++ wsX40)
def wsX2_copyLimits : List Cond := .code yX2_copyLimits cX2_copyLimits 7 (some .int) :: ([.fieldLink RX2 24 "PlateRoom$FactBook" "tails" "[I", .fieldLink RX2 27 "PlateRoom$FactBook" "heads" "[I", .fieldLink RX2 30 "PlateRoom$FactBook" "lengths" "[I", .methodLink RX2 45 yX2_limitsOf, .instanceMethod yX2_limitsOf, .selects RX2 yX2_limitsOf yX2_limitsOf, .initialized RX2, .code yX2_limitsOf cX2_limitsOf 2 (some .int), .fieldLink RX2 21 "PlateRoom$FactBook" "limitCounts" "[I", .methodLink RX2 41 yX2_has, .instanceMethod yX2_has, .selects RX2 yX2_has yX2_has, .code yX2_has cX2_has 2 (some .boolean), .fieldLink RX2 33 "PlateRoom$FactBook" "count" "I", .methodLink RX2 49 yX4_setLimit, .instanceMethod yX4_setLimit, .selects RX4 yX4_setLimit yX4_setLimit, .initialized RX4, .code yX4_setLimit cX4_setLimit 5 none, .fieldLink RX4 9 "PlateRoom$TimeGraph" "tails" "[I", .fieldLink RX4 15 "PlateRoom$TimeGraph" "heads" "[I", .fieldLink RX4 18 "PlateRoom$TimeGraph" "lengths" "[I"] ++ wsX20 ++ wsX40)
def wsX3_init : List Cond := .code yX3_init cX3_init 1 none :: ([.methodLink RX3 3 objectInit, .instanceMethod objectInit, .code objectInit ⟨#[0xb1]⟩ 1 none, .arrayClass .int, .fieldLink RX3 9 "PlateRoom$RightsBook" "lawStarts" "[I", .fieldLink RX3 15 "PlateRoom$RightsBook" "lawDays" "[I", .fieldLink RX3 18 "PlateRoom$RightsBook" "deathPlates" "[I", .fieldLink RX3 21 "PlateRoom$RightsBook" "deathDays" "[I", .fieldLink RX3 24 "PlateRoom$RightsBook" "deathsToldOn" "[I"] ++ wsX30)
def wsX3_hasAllLaws : List Cond := .code yX3_hasAllLaws cX3_hasAllLaws 1 (some .boolean) :: ([.fieldLink RX3 27 "PlateRoom$RightsBook" "lawCount" "I"] ++ wsX30)
def wsX3_hasAllDeaths : List Cond := .code yX3_hasAllDeaths cX3_hasAllDeaths 1 (some .boolean) :: ([.fieldLink RX3 31 "PlateRoom$RightsBook" "deathCount" "I"] ++ wsX30)
def wsX3_addLaw : List Cond := .code yX3_addLaw cX3_addLaw 3 none :: ([.fieldLink RX3 9 "PlateRoom$RightsBook" "lawStarts" "[I", .fieldLink RX3 27 "PlateRoom$RightsBook" "lawCount" "I", .fieldLink RX3 15 "PlateRoom$RightsBook" "lawDays" "[I", .methodLink RX3 34 yX3_hasAllLaws, .instanceMethod yX3_hasAllLaws, .selects RX3 yX3_hasAllLaws yX3_hasAllLaws, .initialized RX3, .code yX3_hasAllLaws cX3_hasAllLaws 1 (some .boolean)] ++ wsX30)
def wsX3_addDeath : List Cond := .code yX3_addDeath cX3_addDeath 4 none :: ([.fieldLink RX3 18 "PlateRoom$RightsBook" "deathPlates" "[I", .fieldLink RX3 31 "PlateRoom$RightsBook" "deathCount" "I", .fieldLink RX3 21 "PlateRoom$RightsBook" "deathDays" "[I", .fieldLink RX3 24 "PlateRoom$RightsBook" "deathsToldOn" "[I", .methodLink RX3 38 yX3_hasAllDeaths, .instanceMethod yX3_hasAllDeaths, .selects RX3 yX3_hasAllDeaths yX3_hasAllDeaths, .initialized RX3, .code yX3_hasAllDeaths cX3_hasAllDeaths 1 (some .boolean)] ++ wsX30)
def wsX3_lawInForce : List Cond := .code yX3_lawInForce cX3_lawInForce 4 (some .int) :: ([.fieldLink RX3 27 "PlateRoom$RightsBook" "lawCount" "I", .fieldLink RX3 9 "PlateRoom$RightsBook" "lawStarts" "[I"] ++ wsX30)
def wsX3_deathKnown : List Cond := .code yX3_deathKnown cX3_deathKnown 6 (some .int) :: ([.fieldLink RX3 31 "PlateRoom$RightsBook" "deathCount" "I", .fieldLink RX3 18 "PlateRoom$RightsBook" "deathPlates" "[I", .fieldLink RX3 24 "PlateRoom$RightsBook" "deathsToldOn" "[I"] ++ wsX30)
def wsX3_isFreeOn : List Cond := .code yX3_isFreeOn cX3_isFreeOn 6 (some .boolean) :: ([.fieldLink RX3 21 "PlateRoom$RightsBook" "deathDays" "[I", .fieldLink RX3 15 "PlateRoom$RightsBook" "lawDays" "[I", .methodLink RX3 41 yX3_lawInForce, .instanceMethod yX3_lawInForce, .selects RX3 yX3_lawInForce yX3_lawInForce, .initialized RX3, .code yX3_lawInForce cX3_lawInForce 4 (some .int), .fieldLink RX3 27 "PlateRoom$RightsBook" "lawCount" "I", .fieldLink RX3 9 "PlateRoom$RightsBook" "lawStarts" "[I", .methodLink RX3 45 yX3_deathKnown, .instanceMethod yX3_deathKnown, .selects RX3 yX3_deathKnown yX3_deathKnown, .code yX3_deathKnown cX3_deathKnown 6 (some .int), .fieldLink RX3 31 "PlateRoom$RightsBook" "deathCount" "I", .fieldLink RX3 18 "PlateRoom$RightsBook" "deathPlates" "[I", .fieldLink RX3 24 "PlateRoom$RightsBook" "deathsToldOn" "[I"] ++ wsX30)
def wsX4_init : List Cond := .code yX4_init cX4_init 1 none :: ([.methodLink RX4 3 objectInit, .instanceMethod objectInit, .code objectInit ⟨#[0xb1]⟩ 1 none, .arrayClass .int, .fieldLink RX4 9 "PlateRoom$TimeGraph" "tails" "[I", .fieldLink RX4 15 "PlateRoom$TimeGraph" "heads" "[I", .fieldLink RX4 18 "PlateRoom$TimeGraph" "lengths" "[I", .fieldLink RX4 21 "PlateRoom$TimeGraph" "ways" "[I", .fieldLink RX4 24 "PlateRoom$TimeGraph" "earlier" "[I"] ++ wsX40)
def wsX4_gather_r1 : List Cond := [Cond.fieldLink RX4 27 "PlateRoom$TimeGraph" "limitCount" "I", Cond.methodLink RX4 31 yX2_size, Cond.instanceMethod yX2_size, Cond.selects RX2 yX2_size yX2_size, Cond.initialized RX2, Cond.code yX2_size cX2_size 1 (some .int), Cond.fieldLink RX2 33 "PlateRoom$FactBook" "count" "I", Cond.methodLink RX4 37 yX2_isKnown, Cond.instanceMethod yX2_isKnown, Cond.selects RX2 yX2_isKnown yX2_isKnown, Cond.code yX2_isKnown cX2_isKnown 3 (some .boolean), Cond.fieldLink RX2 15 "PlateRoom$FactBook" "toldOn" "[I", Cond.fieldLink RX2 18 "PlateRoom$FactBook" "crossedOn" "[I", Cond.methodLink RX2 41 yX2_has, Cond.instanceMethod yX2_has, Cond.selects RX2 yX2_has yX2_has, Cond.code yX2_has cX2_has 2 (some .boolean), Cond.methodLink RX4 41 yX2_copyLimits, Cond.instanceMethod yX2_copyLimits, Cond.selects RX2 yX2_copyLimits yX2_copyLimits, Cond.code yX2_copyLimits cX2_copyLimits 7 (some .int), Cond.fieldLink RX2 24 "PlateRoom$FactBook" "tails" "[I", Cond.fieldLink RX2 27 "PlateRoom$FactBook" "heads" "[I", Cond.fieldLink RX2 30 "PlateRoom$FactBook" "lengths" "[I"]
def wsX4_gather_r2 : List Cond := [Cond.methodLink RX2 45 yX2_limitsOf, Cond.instanceMethod yX2_limitsOf, Cond.selects RX2 yX2_limitsOf yX2_limitsOf, Cond.code yX2_limitsOf cX2_limitsOf 2 (some .int), Cond.fieldLink RX2 21 "PlateRoom$FactBook" "limitCounts" "[I", Cond.methodLink RX2 49 yX4_setLimit, Cond.instanceMethod yX4_setLimit, Cond.selects RX4 yX4_setLimit yX4_setLimit, Cond.initialized RX4, Cond.code yX4_setLimit cX4_setLimit 5 none, Cond.fieldLink RX4 9 "PlateRoom$TimeGraph" "tails" "[I", Cond.fieldLink RX4 15 "PlateRoom$TimeGraph" "heads" "[I", Cond.fieldLink RX4 18 "PlateRoom$TimeGraph" "lengths" "[I"]
def wsX4_gather : List Cond := .code yX4_gather cX4_gather 5 none :: ((wsX4_gather_r1 ++ wsX4_gather_r2) ++ wsX40 ++ wsX20)
def wsX4_wayTo : List Cond := .code yX4_wayTo cX4_wayTo 2 (some .int) :: ([.fieldLink RX4 21 "PlateRoom$TimeGraph" "ways" "[I", .constant RX4 45 (536870912)] ++ wsX40)
def wsX4_followRange : List Cond := .code yX4_followRange cX4_followRange 3 none :: ([.fieldLink RX4 21 "PlateRoom$TimeGraph" "ways" "[I", .methodLink RX4 62 Lib.Math.min.name, .static Lib.Math.min.name, .initialized "java/lang/Math", .code Lib.Math.min.name Lib.Math.min.code 2 (some .int), .constant RX4 82 (100000)] ++ wsX40)
def wsX4_followBounds : List Cond := .code yX4_followBounds cX4_followBounds 3 none :: ([.fieldLink RX4 21 "PlateRoom$TimeGraph" "ways" "[I", .methodLink RX4 62 Lib.Math.min.name, .static Lib.Math.min.name, .initialized "java/lang/Math", .code Lib.Math.min.name Lib.Math.min.code 2 (some .int), .methodLink RX4 79 yX4_followRange, .instanceMethod yX4_followRange, .selects RX4 yX4_followRange yX4_followRange, .initialized RX4, .code yX4_followRange cX4_followRange 3 none, .constant RX4 82 (100000)] ++ wsX40)
def wsX4_startAt : List Cond := .code yX4_startAt cX4_startAt 3 none :: ([.fieldLink RX4 21 "PlateRoom$TimeGraph" "ways" "[I", .constant RX4 45 (536870912), .methodLink RX4 73 yJ7_fill_53178, .static yJ7_fill_53178, .initialized RJ7, .code yJ7_fill_53178 cJ7_fill_53178 4 none, .methodLink RX4 54 yX4_followBounds, .instanceMethod yX4_followBounds, .selects RX4 yX4_followBounds yX4_followBounds, .initialized RX4, .code yX4_followBounds cX4_followBounds 3 none, .methodLink RX4 62 Lib.Math.min.name, .static Lib.Math.min.name, .initialized "java/lang/Math", .code Lib.Math.min.name Lib.Math.min.code 2 (some .int), .methodLink RX4 79 yX4_followRange, .instanceMethod yX4_followRange, .selects RX4 yX4_followRange yX4_followRange, .code yX4_followRange cX4_followRange 3 none, .constant RX4 82 (100000)] ++ wsX40)
def wsX4_followLimits : List Cond := .code yX4_followLimits cX4_followLimits 8 (some .boolean) :: ([.fieldLink RX4 27 "PlateRoom$TimeGraph" "limitCount" "I", .fieldLink RX4 9 "PlateRoom$TimeGraph" "tails" "[I", .fieldLink RX4 15 "PlateRoom$TimeGraph" "heads" "[I", .constant RX4 45 (536870912), .fieldLink RX4 18 "PlateRoom$TimeGraph" "lengths" "[I", .fieldLink RX4 21 "PlateRoom$TimeGraph" "ways" "[I"] ++ wsX40)
def wsX4_measureFrom_r1 : List Cond := [Cond.fieldLink RX4 21 "PlateRoom$TimeGraph" "ways" "[I", Cond.methodLink RX4 46 yX4_startAt, Cond.instanceMethod yX4_startAt, Cond.selects RX4 yX4_startAt yX4_startAt, Cond.initialized RX4, Cond.code yX4_startAt cX4_startAt 3 none, Cond.constant RX4 45 (536870912), Cond.methodLink RX4 73 yJ7_fill_53178, Cond.static yJ7_fill_53178, Cond.initialized RJ7, Cond.code yJ7_fill_53178 cJ7_fill_53178 4 none, Cond.methodLink RX4 54 yX4_followBounds, Cond.instanceMethod yX4_followBounds, Cond.selects RX4 yX4_followBounds yX4_followBounds, Cond.code yX4_followBounds cX4_followBounds 3 none, Cond.methodLink RX4 62 Lib.Math.min.name, Cond.static Lib.Math.min.name, Cond.initialized "java/lang/Math", Cond.code Lib.Math.min.name Lib.Math.min.code 2 (some .int), Cond.methodLink RX4 79 yX4_followRange, Cond.instanceMethod yX4_followRange, Cond.selects RX4 yX4_followRange yX4_followRange, Cond.code yX4_followRange cX4_followRange 3 none, Cond.constant RX4 82 (100000)]
def wsX4_measureFrom_r2 : List Cond := [Cond.methodLink RX4 50 yX4_followLimits, Cond.instanceMethod yX4_followLimits, Cond.selects RX4 yX4_followLimits yX4_followLimits, Cond.code yX4_followLimits cX4_followLimits 8 (some .boolean), Cond.fieldLink RX4 27 "PlateRoom$TimeGraph" "limitCount" "I", Cond.fieldLink RX4 9 "PlateRoom$TimeGraph" "tails" "[I", Cond.fieldLink RX4 15 "PlateRoom$TimeGraph" "heads" "[I", Cond.fieldLink RX4 18 "PlateRoom$TimeGraph" "lengths" "[I"]
def wsX4_measureFrom : List Cond := .code yX4_measureFrom cX4_measureFrom 3 (some .boolean) :: ((wsX4_measureFrom_r1 ++ wsX4_measureFrom_r2) ++ wsX40)
def wsX4_fewerLimitsThrough_r1 : List Cond := [Cond.methodLink RX4 62 Lib.Math.min.name, Cond.static Lib.Math.min.name, Cond.initialized "java/lang/Math", Cond.code Lib.Math.min.name Lib.Math.min.code 2 (some .int), Cond.fieldLink RX4 21 "PlateRoom$TimeGraph" "ways" "[I", Cond.fieldLink RX4 24 "PlateRoom$TimeGraph" "earlier" "[I", Cond.methodLink RX4 67 arraycopyName, Cond.native arraycopyName, Cond.static arraycopyName, Cond.initialized "java/lang/System", Cond.methodLink RX4 46 yX4_startAt, Cond.instanceMethod yX4_startAt, Cond.selects RX4 yX4_startAt yX4_startAt, Cond.initialized RX4, Cond.code yX4_startAt cX4_startAt 3 none, Cond.constant RX4 45 (536870912), Cond.methodLink RX4 73 yJ7_fill_53178, Cond.static yJ7_fill_53178, Cond.initialized RJ7, Cond.code yJ7_fill_53178 cJ7_fill_53178 4 none, Cond.methodLink RX4 54 yX4_followBounds, Cond.instanceMethod yX4_followBounds, Cond.selects RX4 yX4_followBounds yX4_followBounds, Cond.code yX4_followBounds cX4_followBounds 3 none]
def wsX4_fewerLimitsThrough_r2 : List Cond := [Cond.methodLink RX4 79 yX4_followRange, Cond.instanceMethod yX4_followRange, Cond.selects RX4 yX4_followRange yX4_followRange, Cond.code yX4_followRange cX4_followRange 3 none, Cond.constant RX4 82 (100000), Cond.methodLink RX4 50 yX4_followLimits, Cond.instanceMethod yX4_followLimits, Cond.selects RX4 yX4_followLimits yX4_followLimits, Cond.code yX4_followLimits cX4_followLimits 8 (some .boolean), Cond.fieldLink RX4 27 "PlateRoom$TimeGraph" "limitCount" "I", Cond.fieldLink RX4 9 "PlateRoom$TimeGraph" "tails" "[I", Cond.fieldLink RX4 15 "PlateRoom$TimeGraph" "heads" "[I", Cond.fieldLink RX4 18 "PlateRoom$TimeGraph" "lengths" "[I"]
def wsX4_fewerLimitsThrough : List Cond := .code yX4_fewerLimitsThrough cX4_fewerLimitsThrough 5 (some .int) :: ((wsX4_fewerLimitsThrough_r1 ++ wsX4_fewerLimitsThrough_r2) ++ wsX40)
def wsX4_fewestLimits_r1 : List Cond := [Cond.methodLink RX4 58 yX4_fewerLimitsThrough, Cond.instanceMethod yX4_fewerLimitsThrough, Cond.selects RX4 yX4_fewerLimitsThrough yX4_fewerLimitsThrough, Cond.initialized RX4, Cond.code yX4_fewerLimitsThrough cX4_fewerLimitsThrough 5 (some .int), Cond.methodLink RX4 62 Lib.Math.min.name, Cond.static Lib.Math.min.name, Cond.initialized "java/lang/Math", Cond.code Lib.Math.min.name Lib.Math.min.code 2 (some .int), Cond.fieldLink RX4 21 "PlateRoom$TimeGraph" "ways" "[I", Cond.fieldLink RX4 24 "PlateRoom$TimeGraph" "earlier" "[I", Cond.methodLink RX4 67 arraycopyName, Cond.native arraycopyName, Cond.static arraycopyName, Cond.initialized "java/lang/System", Cond.methodLink RX4 46 yX4_startAt, Cond.instanceMethod yX4_startAt, Cond.selects RX4 yX4_startAt yX4_startAt, Cond.code yX4_startAt cX4_startAt 3 none, Cond.constant RX4 45 (536870912), Cond.methodLink RX4 73 yJ7_fill_53178, Cond.static yJ7_fill_53178, Cond.initialized RJ7, Cond.code yJ7_fill_53178 cJ7_fill_53178 4 none]
def wsX4_fewestLimits_r2 : List Cond := [Cond.methodLink RX4 54 yX4_followBounds, Cond.instanceMethod yX4_followBounds, Cond.selects RX4 yX4_followBounds yX4_followBounds, Cond.code yX4_followBounds cX4_followBounds 3 none, Cond.methodLink RX4 79 yX4_followRange, Cond.instanceMethod yX4_followRange, Cond.selects RX4 yX4_followRange yX4_followRange, Cond.code yX4_followRange cX4_followRange 3 none, Cond.constant RX4 82 (100000), Cond.methodLink RX4 50 yX4_followLimits, Cond.instanceMethod yX4_followLimits, Cond.selects RX4 yX4_followLimits yX4_followLimits, Cond.code yX4_followLimits cX4_followLimits 8 (some .boolean), Cond.fieldLink RX4 27 "PlateRoom$TimeGraph" "limitCount" "I", Cond.fieldLink RX4 9 "PlateRoom$TimeGraph" "tails" "[I", Cond.fieldLink RX4 15 "PlateRoom$TimeGraph" "heads" "[I", Cond.fieldLink RX4 18 "PlateRoom$TimeGraph" "lengths" "[I"]
def wsX4_fewestLimits : List Cond := .code yX4_fewestLimits cX4_fewestLimits 3 (some .int) :: ((wsX4_fewestLimits_r1 ++ wsX4_fewestLimits_r2) ++ wsX40)
def wsX5_init_r1 : List Cond := [Cond.methodLink RX5 3 objectInit, Cond.instanceMethod objectInit, Cond.code objectInit ⟨#[0xb1]⟩ 1 none, Cond.classLink RX5 9 RX2, Cond.instantiable RX2 8, Cond.initialized RX2, Cond.fieldLink RX5 12 "PlateRoom" "facts" "LPlateRoom$FactBook;", Cond.classLink RX5 16 RX4, Cond.instantiable RX4 6, Cond.initialized RX4, Cond.fieldLink RX5 19 "PlateRoom" "graph" "LPlateRoom$TimeGraph;", Cond.classLink RX5 23 RX1, Cond.instantiable RX1 5, Cond.initialized RX1, Cond.fieldLink RX5 26 "PlateRoom" "table" "LPlateRoom$EdgeTable;", Cond.classLink RX5 30 RX0, Cond.instantiable RX0 6, Cond.initialized RX0, Cond.fieldLink RX5 33 "PlateRoom" "plan" "LPlateRoom$CopyPlan;", Cond.classLink RX5 37 RX3, Cond.instantiable RX3 7, Cond.initialized RX3, Cond.fieldLink RX5 40 "PlateRoom" "rights" "LPlateRoom$RightsBook;", Cond.arrayClass .int]
def wsX5_init_r2 : List Cond := [Cond.fieldLink RX5 44 "PlateRoom" "outRow" "[I", Cond.fieldLink RX5 48 "PlateRoom" "lastStatus" "I", Cond.instanceMethod yX2_init, Cond.code yX2_init cX2_init 1 none, Cond.methodLink RX2 3 objectInit, Cond.fieldLink RX2 9 "PlateRoom$FactBook" "kinds" "[I", Cond.fieldLink RX2 15 "PlateRoom$FactBook" "toldOn" "[I", Cond.fieldLink RX2 18 "PlateRoom$FactBook" "crossedOn" "[I", Cond.fieldLink RX2 21 "PlateRoom$FactBook" "limitCounts" "[I", Cond.fieldLink RX2 24 "PlateRoom$FactBook" "tails" "[I", Cond.fieldLink RX2 27 "PlateRoom$FactBook" "heads" "[I", Cond.fieldLink RX2 30 "PlateRoom$FactBook" "lengths" "[I", Cond.instanceMethod yX4_init, Cond.code yX4_init cX4_init 1 none, Cond.methodLink RX4 3 objectInit, Cond.fieldLink RX4 9 "PlateRoom$TimeGraph" "tails" "[I", Cond.fieldLink RX4 15 "PlateRoom$TimeGraph" "heads" "[I", Cond.fieldLink RX4 18 "PlateRoom$TimeGraph" "lengths" "[I", Cond.fieldLink RX4 21 "PlateRoom$TimeGraph" "ways" "[I", Cond.fieldLink RX4 24 "PlateRoom$TimeGraph" "earlier" "[I", Cond.methodLink RX5 25 yX1_init, Cond.instanceMethod yX1_init, Cond.code yX1_init cX1_init 2 none, Cond.methodLink RX1 3 objectInit]
def wsX5_init_r3 : List Cond := [Cond.fieldLink RX1 9 "PlateRoom$EdgeTable" "lefts" "[I", Cond.fieldLink RX1 15 "PlateRoom$EdgeTable" "rights" "[I", Cond.fieldLink RX1 18 "PlateRoom$EdgeTable" "likeLeft" "[I", Cond.fieldLink RX1 21 "PlateRoom$EdgeTable" "leftOf" "[I", Cond.fieldLink RX1 24 "PlateRoom$EdgeTable" "rightOf" "[I", Cond.methodLink RX1 27 yX1_compare, Cond.instanceMethod yX1_compare, Cond.selects RX1 yX1_compare yX1_compare, Cond.code yX1_compare cX1_compare 4 none, Cond.methodLink RX1 31 yX1_fits, Cond.static yX1_fits, Cond.code yX1_fits cX1_fits 2 (some .boolean), Cond.methodLink RX5 32 yX0_init, Cond.instanceMethod yX0_init, Cond.code yX0_init cX0_init 1 none, Cond.methodLink RX0 3 objectInit, Cond.fieldLink RX0 9 "PlateRoom$CopyPlan" "wanted" "[I", Cond.fieldLink RX0 15 "PlateRoom$CopyPlan" "hours" "[I", Cond.fieldLink RX0 18 "PlateRoom$CopyPlan" "lost" "[I", Cond.fieldLink RX0 21 "PlateRoom$CopyPlan" "turns" "[I", Cond.arrayClass .long, Cond.fieldLink RX0 24 "PlateRoom$CopyPlan" "worths" "[J", Cond.methodLink RX0 28 yJ7_fill_53178, Cond.static yJ7_fill_53178]
def wsX5_init_r4 : List Cond := [Cond.initialized RJ7, Cond.code yJ7_fill_53178 cJ7_fill_53178 4 none, Cond.instanceMethod yX3_init, Cond.code yX3_init cX3_init 1 none, Cond.methodLink RX3 3 objectInit, Cond.fieldLink RX3 9 "PlateRoom$RightsBook" "lawStarts" "[I", Cond.fieldLink RX3 15 "PlateRoom$RightsBook" "lawDays" "[I", Cond.fieldLink RX3 18 "PlateRoom$RightsBook" "deathPlates" "[I", Cond.fieldLink RX3 21 "PlateRoom$RightsBook" "deathDays" "[I", Cond.fieldLink RX3 24 "PlateRoom$RightsBook" "deathsToldOn" "[I"]
def wsX5_init : List Cond := .code yX5_init cX5_init 1 none :: ((wsX5_init_r1 ++ (wsX5_init_r2 ++ (wsX5_init_r3 ++ wsX5_init_r4))) ++ wsX20 ++ wsX50 ++ wsX40 ++ wsX10 ++ wsX00 ++ wsX30)
def wsX5_status : List Cond := .code yX5_status cX5_status 1 (some .int) :: ([.fieldLink RX5 48 "PlateRoom" "lastStatus" "I"] ++ wsX50)
def wsX5_refuse : List Cond := .code yX5_refuse cX5_refuse 2 (some .int) :: ([.fieldLink RX5 48 "PlateRoom" "lastStatus" "I"] ++ wsX50)
def wsX5_answer : List Cond := .code yX5_answer cX5_answer 2 (some .int) :: ([.fieldLink RX5 48 "PlateRoom" "lastStatus" "I"] ++ wsX50)
def wsX5_plate : List Cond := .code yX5_plate cX5_plate 1 (some .int) :: ([.fieldLink RX5 52 "PlateRoom" "plateCount" "I", .methodLink RX5 55 yX5_refuse, .instanceMethod yX5_refuse, .selects RX5 yX5_refuse yX5_refuse, .initialized RX5, .code yX5_refuse cX5_refuse 2 (some .int), .fieldLink RX5 48 "PlateRoom" "lastStatus" "I", .methodLink RX5 59 yX5_answer, .instanceMethod yX5_answer, .selects RX5 yX5_answer yX5_answer, .code yX5_answer cX5_answer 2 (some .int)] ++ wsX50)
def wsX5_motif : List Cond := .code yX5_motif cX5_motif 1 (some .int) :: ([.fieldLink RX5 62 "PlateRoom" "motifCount" "I", .methodLink RX5 55 yX5_refuse, .instanceMethod yX5_refuse, .selects RX5 yX5_refuse yX5_refuse, .initialized RX5, .code yX5_refuse cX5_refuse 2 (some .int), .fieldLink RX5 48 "PlateRoom" "lastStatus" "I", .methodLink RX5 59 yX5_answer, .instanceMethod yX5_answer, .selects RX5 yX5_answer yX5_answer, .code yX5_answer cX5_answer 2 (some .int)] ++ wsX50)
def wsX5_isPlate : List Cond := .code yX5_isPlate cX5_isPlate 2 (some .boolean) :: ([.fieldLink RX5 52 "PlateRoom" "plateCount" "I"] ++ wsX50)
def wsX5_isMotif : List Cond := .code yX5_isMotif cX5_isMotif 2 (some .boolean) :: ([.fieldLink RX5 62 "PlateRoom" "motifCount" "I"] ++ wsX50)
def wsX5_isWithin : List Cond := .code yX5_isWithin cX5_isWithin 3 (some .boolean) :: ([])
def wsX5_isDay : List Cond := .code yX5_isDay cX5_isDay 1 (some .boolean) :: ([.methodLink RX5 100 yX5_isWithin, .static yX5_isWithin, .initialized RX5, .code yX5_isWithin cX5_isWithin 3 (some .boolean)])
def wsX5_whyNot : List Cond := .code yX5_whyNot cX5_whyNot 2 (some .int) :: ([])
def wsX5_whyNoFact : List Cond := .code yX5_whyNoFact cX5_whyNoFact 4 (some .int) :: ([.fieldLink RX5 12 "PlateRoom" "facts" "LPlateRoom$FactBook;", .methodLink RX5 114 yX5_whyNot, .static yX5_whyNot, .initialized RX5, .code yX5_whyNot cX5_whyNot 2 (some .int), .methodLink RX5 211 yX2_isFull, .instanceMethod yX2_isFull, .selects RX2 yX2_isFull yX2_isFull, .initialized RX2, .code yX2_isFull cX2_isFull 1 (some .boolean), .fieldLink RX2 33 "PlateRoom$FactBook" "count" "I"] ++ wsX50 ++ wsX20)
def wsX5_platePoint : List Cond := .code yX5_platePoint cX5_platePoint 1 (some .int) :: ([])
def wsX5_motifPoint : List Cond := .code yX5_motifPoint cX5_motifPoint 2 (some .int) :: ([])
def wsX5_shows_r1 : List Cond := [Cond.fieldLink RX5 12 "PlateRoom" "facts" "LPlateRoom$FactBook;", Cond.methodLink RX5 65 yX5_isPlate, Cond.instanceMethod yX5_isPlate, Cond.selects RX5 yX5_isPlate yX5_isPlate, Cond.initialized RX5, Cond.code yX5_isPlate cX5_isPlate 2 (some .boolean), Cond.fieldLink RX5 52 "PlateRoom" "plateCount" "I", Cond.methodLink RX5 69 yX5_isMotif, Cond.instanceMethod yX5_isMotif, Cond.selects RX5 yX5_isMotif yX5_isMotif, Cond.code yX5_isMotif cX5_isMotif 2 (some .boolean), Cond.fieldLink RX5 62 "PlateRoom" "motifCount" "I", Cond.methodLink RX5 72 yX5_isDay, Cond.static yX5_isDay, Cond.code yX5_isDay cX5_isDay 1 (some .boolean), Cond.methodLink RX5 100 yX5_isWithin, Cond.static yX5_isWithin, Cond.code yX5_isWithin cX5_isWithin 3 (some .boolean), Cond.methodLink RX5 75 yX5_whyNoFact, Cond.instanceMethod yX5_whyNoFact, Cond.selects RX5 yX5_whyNoFact yX5_whyNoFact, Cond.code yX5_whyNoFact cX5_whyNoFact 4 (some .int), Cond.methodLink RX5 114 yX5_whyNot, Cond.static yX5_whyNot]
def wsX5_shows_r2 : List Cond := [Cond.code yX5_whyNot cX5_whyNot 2 (some .int), Cond.methodLink RX5 211 yX2_isFull, Cond.instanceMethod yX2_isFull, Cond.selects RX2 yX2_isFull yX2_isFull, Cond.initialized RX2, Cond.code yX2_isFull cX2_isFull 1 (some .boolean), Cond.fieldLink RX2 33 "PlateRoom$FactBook" "count" "I", Cond.methodLink RX5 55 yX5_refuse, Cond.instanceMethod yX5_refuse, Cond.selects RX5 yX5_refuse yX5_refuse, Cond.code yX5_refuse cX5_refuse 2 (some .int), Cond.fieldLink RX5 48 "PlateRoom" "lastStatus" "I", Cond.methodLink RX5 79 yX2_tell, Cond.instanceMethod yX2_tell, Cond.selects RX2 yX2_tell yX2_tell, Cond.code yX2_tell cX2_tell 3 (some .int), Cond.fieldLink RX2 9 "PlateRoom$FactBook" "kinds" "[I", Cond.fieldLink RX2 15 "PlateRoom$FactBook" "toldOn" "[I", Cond.fieldLink RX2 18 "PlateRoom$FactBook" "crossedOn" "[I", Cond.methodLink RX2 37 yX2_isFull, Cond.methodLink RX5 83 yX5_platePoint, Cond.static yX5_platePoint, Cond.code yX5_platePoint cX5_platePoint 1 (some .int), Cond.methodLink RX5 86 yX5_motifPoint]
def wsX5_shows_r3 : List Cond := [Cond.static yX5_motifPoint, Cond.code yX5_motifPoint cX5_motifPoint 2 (some .int), Cond.methodLink RX5 90 yX2_addLimit, Cond.instanceMethod yX2_addLimit, Cond.selects RX2 yX2_addLimit yX2_addLimit, Cond.code yX2_addLimit cX2_addLimit 6 none, Cond.fieldLink RX2 21 "PlateRoom$FactBook" "limitCounts" "[I", Cond.fieldLink RX2 24 "PlateRoom$FactBook" "tails" "[I", Cond.fieldLink RX2 27 "PlateRoom$FactBook" "heads" "[I", Cond.fieldLink RX2 30 "PlateRoom$FactBook" "lengths" "[I", Cond.methodLink RX5 59 yX5_answer, Cond.instanceMethod yX5_answer, Cond.selects RX5 yX5_answer yX5_answer, Cond.code yX5_answer cX5_answer 2 (some .int)]
def wsX5_shows : List Cond := .code yX5_shows cX5_shows 6 (some .int) :: ((wsX5_shows_r1 ++ (wsX5_shows_r2 ++ wsX5_shows_r3)) ++ wsX50 ++ wsX20)
def wsX5_areTwoPlates : List Cond := .code yX5_areTwoPlates cX5_areTwoPlates 3 (some .boolean) :: ([.methodLink RX5 65 yX5_isPlate, .instanceMethod yX5_isPlate, .selects RX5 yX5_isPlate yX5_isPlate, .initialized RX5, .code yX5_isPlate cX5_isPlate 2 (some .boolean), .fieldLink RX5 52 "PlateRoom" "plateCount" "I"] ++ wsX50)
def wsX5_ahead_r1 : List Cond := [Cond.constant RX5 98 (-100000), Cond.constant RX5 99 (100000), Cond.fieldLink RX5 12 "PlateRoom" "facts" "LPlateRoom$FactBook;", Cond.methodLink RX5 94 yX5_areTwoPlates, Cond.instanceMethod yX5_areTwoPlates, Cond.selects RX5 yX5_areTwoPlates yX5_areTwoPlates, Cond.initialized RX5, Cond.code yX5_areTwoPlates cX5_areTwoPlates 3 (some .boolean), Cond.methodLink RX5 65 yX5_isPlate, Cond.instanceMethod yX5_isPlate, Cond.selects RX5 yX5_isPlate yX5_isPlate, Cond.code yX5_isPlate cX5_isPlate 2 (some .boolean), Cond.fieldLink RX5 52 "PlateRoom" "plateCount" "I", Cond.methodLink RX5 100 yX5_isWithin, Cond.static yX5_isWithin, Cond.code yX5_isWithin cX5_isWithin 3 (some .boolean), Cond.methodLink RX5 72 yX5_isDay, Cond.static yX5_isDay, Cond.code yX5_isDay cX5_isDay 1 (some .boolean), Cond.methodLink RX5 75 yX5_whyNoFact, Cond.instanceMethod yX5_whyNoFact, Cond.selects RX5 yX5_whyNoFact yX5_whyNoFact, Cond.code yX5_whyNoFact cX5_whyNoFact 4 (some .int), Cond.methodLink RX5 114 yX5_whyNot]
def wsX5_ahead_r2 : List Cond := [Cond.static yX5_whyNot, Cond.code yX5_whyNot cX5_whyNot 2 (some .int), Cond.methodLink RX5 211 yX2_isFull, Cond.instanceMethod yX2_isFull, Cond.selects RX2 yX2_isFull yX2_isFull, Cond.initialized RX2, Cond.code yX2_isFull cX2_isFull 1 (some .boolean), Cond.fieldLink RX2 33 "PlateRoom$FactBook" "count" "I", Cond.methodLink RX5 55 yX5_refuse, Cond.instanceMethod yX5_refuse, Cond.selects RX5 yX5_refuse yX5_refuse, Cond.code yX5_refuse cX5_refuse 2 (some .int), Cond.fieldLink RX5 48 "PlateRoom" "lastStatus" "I", Cond.methodLink RX5 79 yX2_tell, Cond.instanceMethod yX2_tell, Cond.selects RX2 yX2_tell yX2_tell, Cond.code yX2_tell cX2_tell 3 (some .int), Cond.fieldLink RX2 9 "PlateRoom$FactBook" "kinds" "[I", Cond.fieldLink RX2 15 "PlateRoom$FactBook" "toldOn" "[I", Cond.fieldLink RX2 18 "PlateRoom$FactBook" "crossedOn" "[I", Cond.methodLink RX2 37 yX2_isFull, Cond.methodLink RX5 83 yX5_platePoint, Cond.static yX5_platePoint, Cond.code yX5_platePoint cX5_platePoint 1 (some .int)]
def wsX5_ahead_r3 : List Cond := [Cond.methodLink RX5 90 yX2_addLimit, Cond.instanceMethod yX2_addLimit, Cond.selects RX2 yX2_addLimit yX2_addLimit, Cond.code yX2_addLimit cX2_addLimit 6 none, Cond.fieldLink RX2 21 "PlateRoom$FactBook" "limitCounts" "[I", Cond.fieldLink RX2 24 "PlateRoom$FactBook" "tails" "[I", Cond.fieldLink RX2 27 "PlateRoom$FactBook" "heads" "[I", Cond.fieldLink RX2 30 "PlateRoom$FactBook" "lengths" "[I", Cond.methodLink RX5 59 yX5_answer, Cond.instanceMethod yX5_answer, Cond.selects RX5 yX5_answer yX5_answer, Cond.code yX5_answer cX5_answer 2 (some .int)]
def wsX5_ahead : List Cond := .code yX5_ahead cX5_ahead 7 (some .int) :: ((wsX5_ahead_r1 ++ (wsX5_ahead_r2 ++ wsX5_ahead_r3)) ++ wsX50 ++ wsX20)
def wsX5_same_r1 : List Cond := [Cond.fieldLink RX5 12 "PlateRoom" "facts" "LPlateRoom$FactBook;", Cond.methodLink RX5 94 yX5_areTwoPlates, Cond.instanceMethod yX5_areTwoPlates, Cond.selects RX5 yX5_areTwoPlates yX5_areTwoPlates, Cond.initialized RX5, Cond.code yX5_areTwoPlates cX5_areTwoPlates 3 (some .boolean), Cond.methodLink RX5 65 yX5_isPlate, Cond.instanceMethod yX5_isPlate, Cond.selects RX5 yX5_isPlate yX5_isPlate, Cond.code yX5_isPlate cX5_isPlate 2 (some .boolean), Cond.fieldLink RX5 52 "PlateRoom" "plateCount" "I", Cond.methodLink RX5 72 yX5_isDay, Cond.static yX5_isDay, Cond.code yX5_isDay cX5_isDay 1 (some .boolean), Cond.methodLink RX5 100 yX5_isWithin, Cond.static yX5_isWithin, Cond.code yX5_isWithin cX5_isWithin 3 (some .boolean), Cond.methodLink RX5 75 yX5_whyNoFact, Cond.instanceMethod yX5_whyNoFact, Cond.selects RX5 yX5_whyNoFact yX5_whyNoFact, Cond.code yX5_whyNoFact cX5_whyNoFact 4 (some .int), Cond.methodLink RX5 114 yX5_whyNot, Cond.static yX5_whyNot, Cond.code yX5_whyNot cX5_whyNot 2 (some .int)]
def wsX5_same_r2 : List Cond := [Cond.methodLink RX5 211 yX2_isFull, Cond.instanceMethod yX2_isFull, Cond.selects RX2 yX2_isFull yX2_isFull, Cond.initialized RX2, Cond.code yX2_isFull cX2_isFull 1 (some .boolean), Cond.fieldLink RX2 33 "PlateRoom$FactBook" "count" "I", Cond.methodLink RX5 55 yX5_refuse, Cond.instanceMethod yX5_refuse, Cond.selects RX5 yX5_refuse yX5_refuse, Cond.code yX5_refuse cX5_refuse 2 (some .int), Cond.fieldLink RX5 48 "PlateRoom" "lastStatus" "I", Cond.methodLink RX5 79 yX2_tell, Cond.instanceMethod yX2_tell, Cond.selects RX2 yX2_tell yX2_tell, Cond.code yX2_tell cX2_tell 3 (some .int), Cond.fieldLink RX2 9 "PlateRoom$FactBook" "kinds" "[I", Cond.fieldLink RX2 15 "PlateRoom$FactBook" "toldOn" "[I", Cond.fieldLink RX2 18 "PlateRoom$FactBook" "crossedOn" "[I", Cond.methodLink RX2 37 yX2_isFull, Cond.methodLink RX5 83 yX5_platePoint, Cond.static yX5_platePoint, Cond.code yX5_platePoint cX5_platePoint 1 (some .int), Cond.methodLink RX5 90 yX2_addLimit, Cond.instanceMethod yX2_addLimit]
def wsX5_same_r3 : List Cond := [Cond.selects RX2 yX2_addLimit yX2_addLimit, Cond.code yX2_addLimit cX2_addLimit 6 none, Cond.fieldLink RX2 21 "PlateRoom$FactBook" "limitCounts" "[I", Cond.fieldLink RX2 24 "PlateRoom$FactBook" "tails" "[I", Cond.fieldLink RX2 27 "PlateRoom$FactBook" "heads" "[I", Cond.fieldLink RX2 30 "PlateRoom$FactBook" "lengths" "[I", Cond.methodLink RX5 59 yX5_answer, Cond.instanceMethod yX5_answer, Cond.selects RX5 yX5_answer yX5_answer, Cond.code yX5_answer cX5_answer 2 (some .int)]
def wsX5_same : List Cond := .code yX5_same cX5_same 6 (some .int) :: ((wsX5_same_r1 ++ (wsX5_same_r2 ++ wsX5_same_r3)) ++ wsX50 ++ wsX20)
def wsX5_isTimeRange : List Cond := .code yX5_isTimeRange cX5_isTimeRange 2 (some .boolean) :: ([.constant RX5 99 (100000)])
def wsX5_tellRange_r1 : List Cond := [Cond.fieldLink RX5 12 "PlateRoom" "facts" "LPlateRoom$FactBook;", Cond.methodLink RX5 79 yX2_tell, Cond.instanceMethod yX2_tell, Cond.selects RX2 yX2_tell yX2_tell, Cond.initialized RX2, Cond.code yX2_tell cX2_tell 3 (some .int), Cond.fieldLink RX2 9 "PlateRoom$FactBook" "kinds" "[I", Cond.fieldLink RX2 33 "PlateRoom$FactBook" "count" "I", Cond.fieldLink RX2 15 "PlateRoom$FactBook" "toldOn" "[I", Cond.fieldLink RX2 18 "PlateRoom$FactBook" "crossedOn" "[I", Cond.methodLink RX2 37 yX2_isFull, Cond.instanceMethod yX2_isFull, Cond.selects RX2 yX2_isFull yX2_isFull, Cond.code yX2_isFull cX2_isFull 1 (some .boolean), Cond.methodLink RX5 90 yX2_addLimit, Cond.instanceMethod yX2_addLimit, Cond.selects RX2 yX2_addLimit yX2_addLimit, Cond.code yX2_addLimit cX2_addLimit 6 none, Cond.fieldLink RX2 21 "PlateRoom$FactBook" "limitCounts" "[I", Cond.fieldLink RX2 24 "PlateRoom$FactBook" "tails" "[I", Cond.fieldLink RX2 27 "PlateRoom$FactBook" "heads" "[I", Cond.fieldLink RX2 30 "PlateRoom$FactBook" "lengths" "[I", Cond.methodLink RX5 59 yX5_answer, Cond.instanceMethod yX5_answer]
def wsX5_tellRange_r2 : List Cond := [Cond.selects RX5 yX5_answer yX5_answer, Cond.initialized RX5, Cond.code yX5_answer cX5_answer 2 (some .int), Cond.fieldLink RX5 48 "PlateRoom" "lastStatus" "I"]
def wsX5_tellRange : List Cond := .code yX5_tellRange cX5_tellRange 7 (some .int) :: ((wsX5_tellRange_r1 ++ wsX5_tellRange_r2) ++ wsX50 ++ wsX20)
def wsX5_taken_r1 : List Cond := [Cond.methodLink RX5 65 yX5_isPlate, Cond.instanceMethod yX5_isPlate, Cond.selects RX5 yX5_isPlate yX5_isPlate, Cond.initialized RX5, Cond.code yX5_isPlate cX5_isPlate 2 (some .boolean), Cond.fieldLink RX5 52 "PlateRoom" "plateCount" "I", Cond.methodLink RX5 104 yX5_isTimeRange, Cond.static yX5_isTimeRange, Cond.code yX5_isTimeRange cX5_isTimeRange 2 (some .boolean), Cond.constant RX5 99 (100000), Cond.methodLink RX5 72 yX5_isDay, Cond.static yX5_isDay, Cond.code yX5_isDay cX5_isDay 1 (some .boolean), Cond.methodLink RX5 100 yX5_isWithin, Cond.static yX5_isWithin, Cond.code yX5_isWithin cX5_isWithin 3 (some .boolean), Cond.methodLink RX5 75 yX5_whyNoFact, Cond.instanceMethod yX5_whyNoFact, Cond.selects RX5 yX5_whyNoFact yX5_whyNoFact, Cond.code yX5_whyNoFact cX5_whyNoFact 4 (some .int), Cond.fieldLink RX5 12 "PlateRoom" "facts" "LPlateRoom$FactBook;", Cond.methodLink RX5 114 yX5_whyNot, Cond.static yX5_whyNot, Cond.code yX5_whyNot cX5_whyNot 2 (some .int)]
def wsX5_taken_r2 : List Cond := [Cond.methodLink RX5 211 yX2_isFull, Cond.instanceMethod yX2_isFull, Cond.selects RX2 yX2_isFull yX2_isFull, Cond.initialized RX2, Cond.code yX2_isFull cX2_isFull 1 (some .boolean), Cond.fieldLink RX2 33 "PlateRoom$FactBook" "count" "I", Cond.methodLink RX5 55 yX5_refuse, Cond.instanceMethod yX5_refuse, Cond.selects RX5 yX5_refuse yX5_refuse, Cond.code yX5_refuse cX5_refuse 2 (some .int), Cond.fieldLink RX5 48 "PlateRoom" "lastStatus" "I", Cond.methodLink RX5 83 yX5_platePoint, Cond.static yX5_platePoint, Cond.code yX5_platePoint cX5_platePoint 1 (some .int), Cond.methodLink RX5 107 yX5_tellRange, Cond.instanceMethod yX5_tellRange, Cond.selects RX5 yX5_tellRange yX5_tellRange, Cond.code yX5_tellRange cX5_tellRange 7 (some .int), Cond.methodLink RX5 79 yX2_tell, Cond.instanceMethod yX2_tell, Cond.selects RX2 yX2_tell yX2_tell, Cond.code yX2_tell cX2_tell 3 (some .int), Cond.fieldLink RX2 9 "PlateRoom$FactBook" "kinds" "[I", Cond.fieldLink RX2 15 "PlateRoom$FactBook" "toldOn" "[I"]
def wsX5_taken_r3 : List Cond := [Cond.fieldLink RX2 18 "PlateRoom$FactBook" "crossedOn" "[I", Cond.methodLink RX2 37 yX2_isFull, Cond.methodLink RX5 90 yX2_addLimit, Cond.instanceMethod yX2_addLimit, Cond.selects RX2 yX2_addLimit yX2_addLimit, Cond.code yX2_addLimit cX2_addLimit 6 none, Cond.fieldLink RX2 21 "PlateRoom$FactBook" "limitCounts" "[I", Cond.fieldLink RX2 24 "PlateRoom$FactBook" "tails" "[I", Cond.fieldLink RX2 27 "PlateRoom$FactBook" "heads" "[I", Cond.fieldLink RX2 30 "PlateRoom$FactBook" "lengths" "[I", Cond.methodLink RX5 59 yX5_answer, Cond.instanceMethod yX5_answer, Cond.selects RX5 yX5_answer yX5_answer, Cond.code yX5_answer cX5_answer 2 (some .int)]
def wsX5_taken : List Cond := .code yX5_taken cX5_taken 6 (some .int) :: ((wsX5_taken_r1 ++ (wsX5_taken_r2 ++ wsX5_taken_r3)) ++ wsX50 ++ wsX20)
def wsX5_stood_r1 : List Cond := [Cond.methodLink RX5 69 yX5_isMotif, Cond.instanceMethod yX5_isMotif, Cond.selects RX5 yX5_isMotif yX5_isMotif, Cond.initialized RX5, Cond.code yX5_isMotif cX5_isMotif 2 (some .boolean), Cond.fieldLink RX5 62 "PlateRoom" "motifCount" "I", Cond.methodLink RX5 104 yX5_isTimeRange, Cond.static yX5_isTimeRange, Cond.code yX5_isTimeRange cX5_isTimeRange 2 (some .boolean), Cond.constant RX5 99 (100000), Cond.methodLink RX5 72 yX5_isDay, Cond.static yX5_isDay, Cond.code yX5_isDay cX5_isDay 1 (some .boolean), Cond.methodLink RX5 100 yX5_isWithin, Cond.static yX5_isWithin, Cond.code yX5_isWithin cX5_isWithin 3 (some .boolean), Cond.methodLink RX5 75 yX5_whyNoFact, Cond.instanceMethod yX5_whyNoFact, Cond.selects RX5 yX5_whyNoFact yX5_whyNoFact, Cond.code yX5_whyNoFact cX5_whyNoFact 4 (some .int), Cond.fieldLink RX5 12 "PlateRoom" "facts" "LPlateRoom$FactBook;", Cond.methodLink RX5 114 yX5_whyNot, Cond.static yX5_whyNot, Cond.code yX5_whyNot cX5_whyNot 2 (some .int)]
def wsX5_stood_r2 : List Cond := [Cond.methodLink RX5 211 yX2_isFull, Cond.instanceMethod yX2_isFull, Cond.selects RX2 yX2_isFull yX2_isFull, Cond.initialized RX2, Cond.code yX2_isFull cX2_isFull 1 (some .boolean), Cond.fieldLink RX2 33 "PlateRoom$FactBook" "count" "I", Cond.methodLink RX5 55 yX5_refuse, Cond.instanceMethod yX5_refuse, Cond.selects RX5 yX5_refuse yX5_refuse, Cond.code yX5_refuse cX5_refuse 2 (some .int), Cond.fieldLink RX5 48 "PlateRoom" "lastStatus" "I", Cond.methodLink RX5 86 yX5_motifPoint, Cond.static yX5_motifPoint, Cond.code yX5_motifPoint cX5_motifPoint 2 (some .int), Cond.methodLink RX5 107 yX5_tellRange, Cond.instanceMethod yX5_tellRange, Cond.selects RX5 yX5_tellRange yX5_tellRange, Cond.code yX5_tellRange cX5_tellRange 7 (some .int), Cond.methodLink RX5 79 yX2_tell, Cond.instanceMethod yX2_tell, Cond.selects RX2 yX2_tell yX2_tell, Cond.code yX2_tell cX2_tell 3 (some .int), Cond.fieldLink RX2 9 "PlateRoom$FactBook" "kinds" "[I", Cond.fieldLink RX2 15 "PlateRoom$FactBook" "toldOn" "[I"]
def wsX5_stood_r3 : List Cond := [Cond.fieldLink RX2 18 "PlateRoom$FactBook" "crossedOn" "[I", Cond.methodLink RX2 37 yX2_isFull, Cond.methodLink RX5 90 yX2_addLimit, Cond.instanceMethod yX2_addLimit, Cond.selects RX2 yX2_addLimit yX2_addLimit, Cond.code yX2_addLimit cX2_addLimit 6 none, Cond.fieldLink RX2 21 "PlateRoom$FactBook" "limitCounts" "[I", Cond.fieldLink RX2 24 "PlateRoom$FactBook" "tails" "[I", Cond.fieldLink RX2 27 "PlateRoom$FactBook" "heads" "[I", Cond.fieldLink RX2 30 "PlateRoom$FactBook" "lengths" "[I", Cond.methodLink RX5 59 yX5_answer, Cond.instanceMethod yX5_answer, Cond.selects RX5 yX5_answer yX5_answer, Cond.code yX5_answer cX5_answer 2 (some .int)]
def wsX5_stood : List Cond := .code yX5_stood cX5_stood 7 (some .int) :: ((wsX5_stood_r1 ++ (wsX5_stood_r2 ++ wsX5_stood_r3)) ++ wsX50 ++ wsX20)
def wsX5_cross_r1 : List Cond := [Cond.fieldLink RX5 12 "PlateRoom" "facts" "LPlateRoom$FactBook;", Cond.fieldLink RX5 48 "PlateRoom" "lastStatus" "I", Cond.methodLink RX5 111 yX2_has, Cond.instanceMethod yX2_has, Cond.selects RX2 yX2_has yX2_has, Cond.initialized RX2, Cond.code yX2_has cX2_has 2 (some .boolean), Cond.fieldLink RX2 33 "PlateRoom$FactBook" "count" "I", Cond.methodLink RX5 72 yX5_isDay, Cond.static yX5_isDay, Cond.initialized RX5, Cond.code yX5_isDay cX5_isDay 1 (some .boolean), Cond.methodLink RX5 100 yX5_isWithin, Cond.static yX5_isWithin, Cond.code yX5_isWithin cX5_isWithin 3 (some .boolean), Cond.methodLink RX5 114 yX5_whyNot, Cond.static yX5_whyNot, Cond.code yX5_whyNot cX5_whyNot 2 (some .int), Cond.methodLink RX5 117 yX2_crossingDay, Cond.instanceMethod yX2_crossingDay, Cond.selects RX2 yX2_crossingDay yX2_crossingDay, Cond.code yX2_crossingDay cX2_crossingDay 2 (some .int), Cond.fieldLink RX2 18 "PlateRoom$FactBook" "crossedOn" "[I", Cond.methodLink RX2 41 yX2_has]
def wsX5_cross_r2 : List Cond := [Cond.methodLink RX5 120 yX2_crossOut, Cond.instanceMethod yX2_crossOut, Cond.selects RX2 yX2_crossOut yX2_crossOut, Cond.code yX2_crossOut cX2_crossOut 3 none]
def wsX5_cross : List Cond := .code yX5_cross cX5_cross 4 (some .boolean) :: ((wsX5_cross_r1 ++ wsX5_cross_r2) ++ wsX50 ++ wsX20)
def wsX5_fact_r1 : List Cond := [Cond.fieldLink RX5 12 "PlateRoom" "facts" "LPlateRoom$FactBook;", Cond.methodLink RX5 111 yX2_has, Cond.instanceMethod yX2_has, Cond.selects RX2 yX2_has yX2_has, Cond.initialized RX2, Cond.code yX2_has cX2_has 2 (some .boolean), Cond.fieldLink RX2 33 "PlateRoom$FactBook" "count" "I", Cond.methodLink RX5 100 yX5_isWithin, Cond.static yX5_isWithin, Cond.initialized RX5, Cond.code yX5_isWithin cX5_isWithin 3 (some .boolean), Cond.methodLink RX5 114 yX5_whyNot, Cond.static yX5_whyNot, Cond.code yX5_whyNot cX5_whyNot 2 (some .int), Cond.methodLink RX5 55 yX5_refuse, Cond.instanceMethod yX5_refuse, Cond.selects RX5 yX5_refuse yX5_refuse, Cond.code yX5_refuse cX5_refuse 2 (some .int), Cond.fieldLink RX5 48 "PlateRoom" "lastStatus" "I", Cond.methodLink RX5 124 yX2_kindOf, Cond.instanceMethod yX2_kindOf, Cond.selects RX2 yX2_kindOf yX2_kindOf, Cond.code yX2_kindOf cX2_kindOf 2 (some .int), Cond.fieldLink RX2 9 "PlateRoom$FactBook" "kinds" "[I"]
def wsX5_fact_r2 : List Cond := [Cond.methodLink RX2 41 yX2_has, Cond.methodLink RX5 59 yX5_answer, Cond.instanceMethod yX5_answer, Cond.selects RX5 yX5_answer yX5_answer, Cond.code yX5_answer cX5_answer 2 (some .int), Cond.methodLink RX5 127 yX2_tellingDay, Cond.instanceMethod yX2_tellingDay, Cond.selects RX2 yX2_tellingDay yX2_tellingDay, Cond.code yX2_tellingDay cX2_tellingDay 2 (some .int), Cond.fieldLink RX2 15 "PlateRoom$FactBook" "toldOn" "[I", Cond.methodLink RX5 117 yX2_crossingDay, Cond.instanceMethod yX2_crossingDay, Cond.selects RX2 yX2_crossingDay yX2_crossingDay, Cond.code yX2_crossingDay cX2_crossingDay 2 (some .int), Cond.fieldLink RX2 18 "PlateRoom$FactBook" "crossedOn" "[I", Cond.methodLink RX5 130 yX2_limitsOf, Cond.instanceMethod yX2_limitsOf, Cond.selects RX2 yX2_limitsOf yX2_limitsOf, Cond.code yX2_limitsOf cX2_limitsOf 2 (some .int), Cond.fieldLink RX2 21 "PlateRoom$FactBook" "limitCounts" "[I"]
def wsX5_fact : List Cond := .code yX5_fact cX5_fact 4 (some .int) :: ((wsX5_fact_r1 ++ wsX5_fact_r2) ++ wsX50 ++ wsX20)
def wsX5_endOfSpan_r1 : List Cond := [Cond.fieldLink RX5 19 "PlateRoom" "graph" "LPlateRoom$TimeGraph;", Cond.fieldLink RX5 12 "PlateRoom" "facts" "LPlateRoom$FactBook;", Cond.methodLink RX5 137 yX4_gather, Cond.instanceMethod yX4_gather, Cond.selects RX4 yX4_gather yX4_gather, Cond.initialized RX4, Cond.code yX4_gather cX4_gather 5 none, Cond.fieldLink RX4 27 "PlateRoom$TimeGraph" "limitCount" "I", Cond.methodLink RX4 31 yX2_size, Cond.instanceMethod yX2_size, Cond.selects RX2 yX2_size yX2_size, Cond.initialized RX2, Cond.code yX2_size cX2_size 1 (some .int), Cond.fieldLink RX2 33 "PlateRoom$FactBook" "count" "I", Cond.methodLink RX4 37 yX2_isKnown, Cond.instanceMethod yX2_isKnown, Cond.selects RX2 yX2_isKnown yX2_isKnown, Cond.code yX2_isKnown cX2_isKnown 3 (some .boolean), Cond.fieldLink RX2 15 "PlateRoom$FactBook" "toldOn" "[I", Cond.fieldLink RX2 18 "PlateRoom$FactBook" "crossedOn" "[I", Cond.methodLink RX2 41 yX2_has, Cond.instanceMethod yX2_has, Cond.selects RX2 yX2_has yX2_has, Cond.code yX2_has cX2_has 2 (some .boolean)]
def wsX5_endOfSpan_r2 : List Cond := [Cond.methodLink RX4 41 yX2_copyLimits, Cond.instanceMethod yX2_copyLimits, Cond.selects RX2 yX2_copyLimits yX2_copyLimits, Cond.code yX2_copyLimits cX2_copyLimits 7 (some .int), Cond.fieldLink RX2 24 "PlateRoom$FactBook" "tails" "[I", Cond.fieldLink RX2 27 "PlateRoom$FactBook" "heads" "[I", Cond.fieldLink RX2 30 "PlateRoom$FactBook" "lengths" "[I", Cond.methodLink RX2 45 yX2_limitsOf, Cond.instanceMethod yX2_limitsOf, Cond.selects RX2 yX2_limitsOf yX2_limitsOf, Cond.code yX2_limitsOf cX2_limitsOf 2 (some .int), Cond.fieldLink RX2 21 "PlateRoom$FactBook" "limitCounts" "[I", Cond.methodLink RX2 49 yX4_setLimit, Cond.instanceMethod yX4_setLimit, Cond.selects RX4 yX4_setLimit yX4_setLimit, Cond.code yX4_setLimit cX4_setLimit 5 none, Cond.fieldLink RX4 9 "PlateRoom$TimeGraph" "tails" "[I", Cond.fieldLink RX4 15 "PlateRoom$TimeGraph" "heads" "[I", Cond.fieldLink RX4 18 "PlateRoom$TimeGraph" "lengths" "[I", Cond.methodLink RX5 141 yX4_measureFrom, Cond.instanceMethod yX4_measureFrom, Cond.selects RX4 yX4_measureFrom yX4_measureFrom, Cond.code yX4_measureFrom cX4_measureFrom 3 (some .boolean), Cond.fieldLink RX4 21 "PlateRoom$TimeGraph" "ways" "[I"]
def wsX5_endOfSpan_r3 : List Cond := [Cond.methodLink RX4 46 yX4_startAt, Cond.instanceMethod yX4_startAt, Cond.selects RX4 yX4_startAt yX4_startAt, Cond.code yX4_startAt cX4_startAt 3 none, Cond.constant RX4 45 (536870912), Cond.methodLink RX4 73 yJ7_fill_53178, Cond.static yJ7_fill_53178, Cond.initialized RJ7, Cond.code yJ7_fill_53178 cJ7_fill_53178 4 none, Cond.methodLink RX4 54 yX4_followBounds, Cond.instanceMethod yX4_followBounds, Cond.selects RX4 yX4_followBounds yX4_followBounds, Cond.code yX4_followBounds cX4_followBounds 3 none, Cond.methodLink RX4 62 Lib.Math.min.name, Cond.static Lib.Math.min.name, Cond.initialized "java/lang/Math", Cond.code Lib.Math.min.name Lib.Math.min.code 2 (some .int), Cond.methodLink RX4 79 yX4_followRange, Cond.instanceMethod yX4_followRange, Cond.selects RX4 yX4_followRange yX4_followRange, Cond.code yX4_followRange cX4_followRange 3 none, Cond.constant RX4 82 (100000), Cond.methodLink RX4 50 yX4_followLimits, Cond.instanceMethod yX4_followLimits]
def wsX5_endOfSpan_r4 : List Cond := [Cond.selects RX4 yX4_followLimits yX4_followLimits, Cond.code yX4_followLimits cX4_followLimits 8 (some .boolean), Cond.methodLink RX5 55 yX5_refuse, Cond.instanceMethod yX5_refuse, Cond.selects RX5 yX5_refuse yX5_refuse, Cond.initialized RX5, Cond.code yX5_refuse cX5_refuse 2 (some .int), Cond.fieldLink RX5 48 "PlateRoom" "lastStatus" "I", Cond.methodLink RX5 151 yX4_wayTo, Cond.instanceMethod yX4_wayTo, Cond.selects RX4 yX4_wayTo yX4_wayTo, Cond.code yX4_wayTo cX4_wayTo 2 (some .int), Cond.methodLink RX5 59 yX5_answer, Cond.instanceMethod yX5_answer, Cond.selects RX5 yX5_answer yX5_answer, Cond.code yX5_answer cX5_answer 2 (some .int)]
def wsX5_endOfSpan : List Cond := .code yX5_endOfSpan cX5_endOfSpan 4 (some .int) :: ((wsX5_endOfSpan_r1 ++ (wsX5_endOfSpan_r2 ++ (wsX5_endOfSpan_r3 ++ wsX5_endOfSpan_r4))) ++ wsX50 ++ wsX40 ++ wsX20)
def wsX5_span_r1 : List Cond := [Cond.methodLink RX5 65 yX5_isPlate, Cond.instanceMethod yX5_isPlate, Cond.selects RX5 yX5_isPlate yX5_isPlate, Cond.initialized RX5, Cond.code yX5_isPlate cX5_isPlate 2 (some .boolean), Cond.fieldLink RX5 52 "PlateRoom" "plateCount" "I", Cond.methodLink RX5 72 yX5_isDay, Cond.static yX5_isDay, Cond.code yX5_isDay cX5_isDay 1 (some .boolean), Cond.methodLink RX5 100 yX5_isWithin, Cond.static yX5_isWithin, Cond.code yX5_isWithin cX5_isWithin 3 (some .boolean), Cond.methodLink RX5 114 yX5_whyNot, Cond.static yX5_whyNot, Cond.code yX5_whyNot cX5_whyNot 2 (some .int), Cond.methodLink RX5 55 yX5_refuse, Cond.instanceMethod yX5_refuse, Cond.selects RX5 yX5_refuse yX5_refuse, Cond.code yX5_refuse cX5_refuse 2 (some .int), Cond.fieldLink RX5 48 "PlateRoom" "lastStatus" "I", Cond.methodLink RX5 83 yX5_platePoint, Cond.static yX5_platePoint, Cond.code yX5_platePoint cX5_platePoint 1 (some .int), Cond.methodLink RX5 133 yX5_endOfSpan]
def wsX5_span_r2 : List Cond := [Cond.instanceMethod yX5_endOfSpan, Cond.selects RX5 yX5_endOfSpan yX5_endOfSpan, Cond.code yX5_endOfSpan cX5_endOfSpan 4 (some .int), Cond.fieldLink RX5 19 "PlateRoom" "graph" "LPlateRoom$TimeGraph;", Cond.fieldLink RX5 12 "PlateRoom" "facts" "LPlateRoom$FactBook;", Cond.methodLink RX5 137 yX4_gather, Cond.instanceMethod yX4_gather, Cond.selects RX4 yX4_gather yX4_gather, Cond.initialized RX4, Cond.code yX4_gather cX4_gather 5 none, Cond.fieldLink RX4 27 "PlateRoom$TimeGraph" "limitCount" "I", Cond.methodLink RX4 31 yX2_size, Cond.instanceMethod yX2_size, Cond.selects RX2 yX2_size yX2_size, Cond.initialized RX2, Cond.code yX2_size cX2_size 1 (some .int), Cond.fieldLink RX2 33 "PlateRoom$FactBook" "count" "I", Cond.methodLink RX4 37 yX2_isKnown, Cond.instanceMethod yX2_isKnown, Cond.selects RX2 yX2_isKnown yX2_isKnown, Cond.code yX2_isKnown cX2_isKnown 3 (some .boolean), Cond.fieldLink RX2 15 "PlateRoom$FactBook" "toldOn" "[I", Cond.fieldLink RX2 18 "PlateRoom$FactBook" "crossedOn" "[I", Cond.methodLink RX2 41 yX2_has]
def wsX5_span_r3 : List Cond := [Cond.instanceMethod yX2_has, Cond.selects RX2 yX2_has yX2_has, Cond.code yX2_has cX2_has 2 (some .boolean), Cond.methodLink RX4 41 yX2_copyLimits, Cond.instanceMethod yX2_copyLimits, Cond.selects RX2 yX2_copyLimits yX2_copyLimits, Cond.code yX2_copyLimits cX2_copyLimits 7 (some .int), Cond.fieldLink RX2 24 "PlateRoom$FactBook" "tails" "[I", Cond.fieldLink RX2 27 "PlateRoom$FactBook" "heads" "[I", Cond.fieldLink RX2 30 "PlateRoom$FactBook" "lengths" "[I", Cond.methodLink RX2 45 yX2_limitsOf, Cond.instanceMethod yX2_limitsOf, Cond.selects RX2 yX2_limitsOf yX2_limitsOf, Cond.code yX2_limitsOf cX2_limitsOf 2 (some .int), Cond.fieldLink RX2 21 "PlateRoom$FactBook" "limitCounts" "[I", Cond.methodLink RX2 49 yX4_setLimit, Cond.instanceMethod yX4_setLimit, Cond.selects RX4 yX4_setLimit yX4_setLimit, Cond.code yX4_setLimit cX4_setLimit 5 none, Cond.fieldLink RX4 9 "PlateRoom$TimeGraph" "tails" "[I", Cond.fieldLink RX4 15 "PlateRoom$TimeGraph" "heads" "[I", Cond.fieldLink RX4 18 "PlateRoom$TimeGraph" "lengths" "[I", Cond.methodLink RX5 141 yX4_measureFrom, Cond.instanceMethod yX4_measureFrom]
def wsX5_span_r4 : List Cond := [Cond.selects RX4 yX4_measureFrom yX4_measureFrom, Cond.code yX4_measureFrom cX4_measureFrom 3 (some .boolean), Cond.fieldLink RX4 21 "PlateRoom$TimeGraph" "ways" "[I", Cond.methodLink RX4 46 yX4_startAt, Cond.instanceMethod yX4_startAt, Cond.selects RX4 yX4_startAt yX4_startAt, Cond.code yX4_startAt cX4_startAt 3 none, Cond.constant RX4 45 (536870912), Cond.methodLink RX4 73 yJ7_fill_53178, Cond.static yJ7_fill_53178, Cond.initialized RJ7, Cond.code yJ7_fill_53178 cJ7_fill_53178 4 none, Cond.methodLink RX4 54 yX4_followBounds, Cond.instanceMethod yX4_followBounds, Cond.selects RX4 yX4_followBounds yX4_followBounds, Cond.code yX4_followBounds cX4_followBounds 3 none, Cond.methodLink RX4 62 Lib.Math.min.name, Cond.static Lib.Math.min.name, Cond.initialized "java/lang/Math", Cond.code Lib.Math.min.name Lib.Math.min.code 2 (some .int), Cond.methodLink RX4 79 yX4_followRange, Cond.instanceMethod yX4_followRange, Cond.selects RX4 yX4_followRange yX4_followRange, Cond.code yX4_followRange cX4_followRange 3 none]
def wsX5_span_r5 : List Cond := [Cond.constant RX4 82 (100000), Cond.methodLink RX4 50 yX4_followLimits, Cond.instanceMethod yX4_followLimits, Cond.selects RX4 yX4_followLimits yX4_followLimits, Cond.code yX4_followLimits cX4_followLimits 8 (some .boolean), Cond.methodLink RX5 151 yX4_wayTo, Cond.instanceMethod yX4_wayTo, Cond.selects RX4 yX4_wayTo yX4_wayTo, Cond.code yX4_wayTo cX4_wayTo 2 (some .int), Cond.methodLink RX5 59 yX5_answer, Cond.instanceMethod yX5_answer, Cond.selects RX5 yX5_answer yX5_answer, Cond.code yX5_answer cX5_answer 2 (some .int)]
def wsX5_span : List Cond := .code yX5_span cX5_span 5 (some .int) :: ((wsX5_span_r1 ++ (wsX5_span_r2 ++ (wsX5_span_r3 ++ (wsX5_span_r4 ++ wsX5_span_r5)))) ++ wsX50 ++ wsX40 ++ wsX20)
def wsX5_times_r1 : List Cond := [Cond.methodLink RX5 69 yX5_isMotif, Cond.instanceMethod yX5_isMotif, Cond.selects RX5 yX5_isMotif yX5_isMotif, Cond.initialized RX5, Cond.code yX5_isMotif cX5_isMotif 2 (some .boolean), Cond.fieldLink RX5 62 "PlateRoom" "motifCount" "I", Cond.methodLink RX5 72 yX5_isDay, Cond.static yX5_isDay, Cond.code yX5_isDay cX5_isDay 1 (some .boolean), Cond.methodLink RX5 100 yX5_isWithin, Cond.static yX5_isWithin, Cond.code yX5_isWithin cX5_isWithin 3 (some .boolean), Cond.methodLink RX5 114 yX5_whyNot, Cond.static yX5_whyNot, Cond.code yX5_whyNot cX5_whyNot 2 (some .int), Cond.methodLink RX5 55 yX5_refuse, Cond.instanceMethod yX5_refuse, Cond.selects RX5 yX5_refuse yX5_refuse, Cond.code yX5_refuse cX5_refuse 2 (some .int), Cond.fieldLink RX5 48 "PlateRoom" "lastStatus" "I", Cond.methodLink RX5 86 yX5_motifPoint, Cond.static yX5_motifPoint, Cond.code yX5_motifPoint cX5_motifPoint 2 (some .int), Cond.methodLink RX5 133 yX5_endOfSpan]
def wsX5_times_r2 : List Cond := [Cond.instanceMethod yX5_endOfSpan, Cond.selects RX5 yX5_endOfSpan yX5_endOfSpan, Cond.code yX5_endOfSpan cX5_endOfSpan 4 (some .int), Cond.fieldLink RX5 19 "PlateRoom" "graph" "LPlateRoom$TimeGraph;", Cond.fieldLink RX5 12 "PlateRoom" "facts" "LPlateRoom$FactBook;", Cond.methodLink RX5 137 yX4_gather, Cond.instanceMethod yX4_gather, Cond.selects RX4 yX4_gather yX4_gather, Cond.initialized RX4, Cond.code yX4_gather cX4_gather 5 none, Cond.fieldLink RX4 27 "PlateRoom$TimeGraph" "limitCount" "I", Cond.methodLink RX4 31 yX2_size, Cond.instanceMethod yX2_size, Cond.selects RX2 yX2_size yX2_size, Cond.initialized RX2, Cond.code yX2_size cX2_size 1 (some .int), Cond.fieldLink RX2 33 "PlateRoom$FactBook" "count" "I", Cond.methodLink RX4 37 yX2_isKnown, Cond.instanceMethod yX2_isKnown, Cond.selects RX2 yX2_isKnown yX2_isKnown, Cond.code yX2_isKnown cX2_isKnown 3 (some .boolean), Cond.fieldLink RX2 15 "PlateRoom$FactBook" "toldOn" "[I", Cond.fieldLink RX2 18 "PlateRoom$FactBook" "crossedOn" "[I", Cond.methodLink RX2 41 yX2_has]
def wsX5_times_r3 : List Cond := [Cond.instanceMethod yX2_has, Cond.selects RX2 yX2_has yX2_has, Cond.code yX2_has cX2_has 2 (some .boolean), Cond.methodLink RX4 41 yX2_copyLimits, Cond.instanceMethod yX2_copyLimits, Cond.selects RX2 yX2_copyLimits yX2_copyLimits, Cond.code yX2_copyLimits cX2_copyLimits 7 (some .int), Cond.fieldLink RX2 24 "PlateRoom$FactBook" "tails" "[I", Cond.fieldLink RX2 27 "PlateRoom$FactBook" "heads" "[I", Cond.fieldLink RX2 30 "PlateRoom$FactBook" "lengths" "[I", Cond.methodLink RX2 45 yX2_limitsOf, Cond.instanceMethod yX2_limitsOf, Cond.selects RX2 yX2_limitsOf yX2_limitsOf, Cond.code yX2_limitsOf cX2_limitsOf 2 (some .int), Cond.fieldLink RX2 21 "PlateRoom$FactBook" "limitCounts" "[I", Cond.methodLink RX2 49 yX4_setLimit, Cond.instanceMethod yX4_setLimit, Cond.selects RX4 yX4_setLimit yX4_setLimit, Cond.code yX4_setLimit cX4_setLimit 5 none, Cond.fieldLink RX4 9 "PlateRoom$TimeGraph" "tails" "[I", Cond.fieldLink RX4 15 "PlateRoom$TimeGraph" "heads" "[I", Cond.fieldLink RX4 18 "PlateRoom$TimeGraph" "lengths" "[I", Cond.methodLink RX5 141 yX4_measureFrom, Cond.instanceMethod yX4_measureFrom]
def wsX5_times_r4 : List Cond := [Cond.selects RX4 yX4_measureFrom yX4_measureFrom, Cond.code yX4_measureFrom cX4_measureFrom 3 (some .boolean), Cond.fieldLink RX4 21 "PlateRoom$TimeGraph" "ways" "[I", Cond.methodLink RX4 46 yX4_startAt, Cond.instanceMethod yX4_startAt, Cond.selects RX4 yX4_startAt yX4_startAt, Cond.code yX4_startAt cX4_startAt 3 none, Cond.constant RX4 45 (536870912), Cond.methodLink RX4 73 yJ7_fill_53178, Cond.static yJ7_fill_53178, Cond.initialized RJ7, Cond.code yJ7_fill_53178 cJ7_fill_53178 4 none, Cond.methodLink RX4 54 yX4_followBounds, Cond.instanceMethod yX4_followBounds, Cond.selects RX4 yX4_followBounds yX4_followBounds, Cond.code yX4_followBounds cX4_followBounds 3 none, Cond.methodLink RX4 62 Lib.Math.min.name, Cond.static Lib.Math.min.name, Cond.initialized "java/lang/Math", Cond.code Lib.Math.min.name Lib.Math.min.code 2 (some .int), Cond.methodLink RX4 79 yX4_followRange, Cond.instanceMethod yX4_followRange, Cond.selects RX4 yX4_followRange yX4_followRange, Cond.code yX4_followRange cX4_followRange 3 none]
def wsX5_times_r5 : List Cond := [Cond.constant RX4 82 (100000), Cond.methodLink RX4 50 yX4_followLimits, Cond.instanceMethod yX4_followLimits, Cond.selects RX4 yX4_followLimits yX4_followLimits, Cond.code yX4_followLimits cX4_followLimits 8 (some .boolean), Cond.methodLink RX5 151 yX4_wayTo, Cond.instanceMethod yX4_wayTo, Cond.selects RX4 yX4_wayTo yX4_wayTo, Cond.code yX4_wayTo cX4_wayTo 2 (some .int), Cond.methodLink RX5 59 yX5_answer, Cond.instanceMethod yX5_answer, Cond.selects RX5 yX5_answer yX5_answer, Cond.code yX5_answer cX5_answer 2 (some .int)]
def wsX5_times : List Cond := .code yX5_times cX5_times 6 (some .int) :: ((wsX5_times_r1 ++ (wsX5_times_r2 ++ (wsX5_times_r3 ++ (wsX5_times_r4 ++ wsX5_times_r5)))) ++ wsX50 ++ wsX40 ++ wsX20)
def wsX5_quarrel_r1 : List Cond := [Cond.fieldLink RX5 19 "PlateRoom" "graph" "LPlateRoom$TimeGraph;", Cond.fieldLink RX5 12 "PlateRoom" "facts" "LPlateRoom$FactBook;", Cond.methodLink RX5 72 yX5_isDay, Cond.static yX5_isDay, Cond.initialized RX5, Cond.code yX5_isDay cX5_isDay 1 (some .boolean), Cond.methodLink RX5 100 yX5_isWithin, Cond.static yX5_isWithin, Cond.code yX5_isWithin cX5_isWithin 3 (some .boolean), Cond.methodLink RX5 55 yX5_refuse, Cond.instanceMethod yX5_refuse, Cond.selects RX5 yX5_refuse yX5_refuse, Cond.code yX5_refuse cX5_refuse 2 (some .int), Cond.fieldLink RX5 48 "PlateRoom" "lastStatus" "I", Cond.methodLink RX5 137 yX4_gather, Cond.instanceMethod yX4_gather, Cond.selects RX4 yX4_gather yX4_gather, Cond.initialized RX4, Cond.code yX4_gather cX4_gather 5 none, Cond.fieldLink RX4 27 "PlateRoom$TimeGraph" "limitCount" "I", Cond.methodLink RX4 31 yX2_size, Cond.instanceMethod yX2_size, Cond.selects RX2 yX2_size yX2_size, Cond.initialized RX2]
def wsX5_quarrel_r2 : List Cond := [Cond.code yX2_size cX2_size 1 (some .int), Cond.fieldLink RX2 33 "PlateRoom$FactBook" "count" "I", Cond.methodLink RX4 37 yX2_isKnown, Cond.instanceMethod yX2_isKnown, Cond.selects RX2 yX2_isKnown yX2_isKnown, Cond.code yX2_isKnown cX2_isKnown 3 (some .boolean), Cond.fieldLink RX2 15 "PlateRoom$FactBook" "toldOn" "[I", Cond.fieldLink RX2 18 "PlateRoom$FactBook" "crossedOn" "[I", Cond.methodLink RX2 41 yX2_has, Cond.instanceMethod yX2_has, Cond.selects RX2 yX2_has yX2_has, Cond.code yX2_has cX2_has 2 (some .boolean), Cond.methodLink RX4 41 yX2_copyLimits, Cond.instanceMethod yX2_copyLimits, Cond.selects RX2 yX2_copyLimits yX2_copyLimits, Cond.code yX2_copyLimits cX2_copyLimits 7 (some .int), Cond.fieldLink RX2 24 "PlateRoom$FactBook" "tails" "[I", Cond.fieldLink RX2 27 "PlateRoom$FactBook" "heads" "[I", Cond.fieldLink RX2 30 "PlateRoom$FactBook" "lengths" "[I", Cond.methodLink RX2 45 yX2_limitsOf, Cond.instanceMethod yX2_limitsOf, Cond.selects RX2 yX2_limitsOf yX2_limitsOf, Cond.code yX2_limitsOf cX2_limitsOf 2 (some .int), Cond.fieldLink RX2 21 "PlateRoom$FactBook" "limitCounts" "[I"]
def wsX5_quarrel_r3 : List Cond := [Cond.methodLink RX2 49 yX4_setLimit, Cond.instanceMethod yX4_setLimit, Cond.selects RX4 yX4_setLimit yX4_setLimit, Cond.code yX4_setLimit cX4_setLimit 5 none, Cond.fieldLink RX4 9 "PlateRoom$TimeGraph" "tails" "[I", Cond.fieldLink RX4 15 "PlateRoom$TimeGraph" "heads" "[I", Cond.fieldLink RX4 18 "PlateRoom$TimeGraph" "lengths" "[I", Cond.methodLink RX5 141 yX4_measureFrom, Cond.instanceMethod yX4_measureFrom, Cond.selects RX4 yX4_measureFrom yX4_measureFrom, Cond.code yX4_measureFrom cX4_measureFrom 3 (some .boolean), Cond.fieldLink RX4 21 "PlateRoom$TimeGraph" "ways" "[I", Cond.methodLink RX4 46 yX4_startAt, Cond.instanceMethod yX4_startAt, Cond.selects RX4 yX4_startAt yX4_startAt, Cond.code yX4_startAt cX4_startAt 3 none, Cond.constant RX4 45 (536870912), Cond.methodLink RX4 73 yJ7_fill_53178, Cond.static yJ7_fill_53178, Cond.initialized RJ7, Cond.code yJ7_fill_53178 cJ7_fill_53178 4 none, Cond.methodLink RX4 54 yX4_followBounds, Cond.instanceMethod yX4_followBounds, Cond.selects RX4 yX4_followBounds yX4_followBounds]
def wsX5_quarrel_r4 : List Cond := [Cond.code yX4_followBounds cX4_followBounds 3 none, Cond.methodLink RX4 62 Lib.Math.min.name, Cond.static Lib.Math.min.name, Cond.initialized "java/lang/Math", Cond.code Lib.Math.min.name Lib.Math.min.code 2 (some .int), Cond.methodLink RX4 79 yX4_followRange, Cond.instanceMethod yX4_followRange, Cond.selects RX4 yX4_followRange yX4_followRange, Cond.code yX4_followRange cX4_followRange 3 none, Cond.constant RX4 82 (100000), Cond.methodLink RX4 50 yX4_followLimits, Cond.instanceMethod yX4_followLimits, Cond.selects RX4 yX4_followLimits yX4_followLimits, Cond.code yX4_followLimits cX4_followLimits 8 (some .boolean), Cond.methodLink RX5 144 yX4_fewestLimits, Cond.instanceMethod yX4_fewestLimits, Cond.selects RX4 yX4_fewestLimits yX4_fewestLimits, Cond.code yX4_fewestLimits cX4_fewestLimits 3 (some .int), Cond.methodLink RX4 58 yX4_fewerLimitsThrough, Cond.instanceMethod yX4_fewerLimitsThrough, Cond.selects RX4 yX4_fewerLimitsThrough yX4_fewerLimitsThrough, Cond.code yX4_fewerLimitsThrough cX4_fewerLimitsThrough 5 (some .int), Cond.fieldLink RX4 24 "PlateRoom$TimeGraph" "earlier" "[I", Cond.methodLink RX4 67 arraycopyName]
def wsX5_quarrel_r5 : List Cond := [Cond.native arraycopyName, Cond.static arraycopyName, Cond.initialized "java/lang/System", Cond.methodLink RX5 59 yX5_answer, Cond.instanceMethod yX5_answer, Cond.selects RX5 yX5_answer yX5_answer, Cond.code yX5_answer cX5_answer 2 (some .int)]
def wsX5_quarrel : List Cond := .code yX5_quarrel cX5_quarrel 2 (some .int) :: ((wsX5_quarrel_r1 ++ (wsX5_quarrel_r2 ++ (wsX5_quarrel_r3 ++ (wsX5_quarrel_r4 ++ wsX5_quarrel_r5)))) ++ wsX50 ++ wsX40 ++ wsX20)
def wsX5_frees_r1 : List Cond := [Cond.fieldLink RX5 12 "PlateRoom" "facts" "LPlateRoom$FactBook;", Cond.fieldLink RX5 19 "PlateRoom" "graph" "LPlateRoom$TimeGraph;", Cond.methodLink RX5 111 yX2_has, Cond.instanceMethod yX2_has, Cond.selects RX2 yX2_has yX2_has, Cond.initialized RX2, Cond.code yX2_has cX2_has 2 (some .boolean), Cond.fieldLink RX2 33 "PlateRoom$FactBook" "count" "I", Cond.methodLink RX5 72 yX5_isDay, Cond.static yX5_isDay, Cond.initialized RX5, Cond.code yX5_isDay cX5_isDay 1 (some .boolean), Cond.methodLink RX5 100 yX5_isWithin, Cond.static yX5_isWithin, Cond.code yX5_isWithin cX5_isWithin 3 (some .boolean), Cond.methodLink RX5 114 yX5_whyNot, Cond.static yX5_whyNot, Cond.code yX5_whyNot cX5_whyNot 2 (some .int), Cond.methodLink RX5 55 yX5_refuse, Cond.instanceMethod yX5_refuse, Cond.selects RX5 yX5_refuse yX5_refuse, Cond.code yX5_refuse cX5_refuse 2 (some .int), Cond.fieldLink RX5 48 "PlateRoom" "lastStatus" "I", Cond.methodLink RX5 137 yX4_gather]
def wsX5_frees_r2 : List Cond := [Cond.instanceMethod yX4_gather, Cond.selects RX4 yX4_gather yX4_gather, Cond.initialized RX4, Cond.code yX4_gather cX4_gather 5 none, Cond.fieldLink RX4 27 "PlateRoom$TimeGraph" "limitCount" "I", Cond.methodLink RX4 31 yX2_size, Cond.instanceMethod yX2_size, Cond.selects RX2 yX2_size yX2_size, Cond.code yX2_size cX2_size 1 (some .int), Cond.methodLink RX4 37 yX2_isKnown, Cond.instanceMethod yX2_isKnown, Cond.selects RX2 yX2_isKnown yX2_isKnown, Cond.code yX2_isKnown cX2_isKnown 3 (some .boolean), Cond.fieldLink RX2 15 "PlateRoom$FactBook" "toldOn" "[I", Cond.fieldLink RX2 18 "PlateRoom$FactBook" "crossedOn" "[I", Cond.methodLink RX2 41 yX2_has, Cond.methodLink RX4 41 yX2_copyLimits, Cond.instanceMethod yX2_copyLimits, Cond.selects RX2 yX2_copyLimits yX2_copyLimits, Cond.code yX2_copyLimits cX2_copyLimits 7 (some .int), Cond.fieldLink RX2 24 "PlateRoom$FactBook" "tails" "[I", Cond.fieldLink RX2 27 "PlateRoom$FactBook" "heads" "[I", Cond.fieldLink RX2 30 "PlateRoom$FactBook" "lengths" "[I", Cond.methodLink RX2 45 yX2_limitsOf]
def wsX5_frees_r3 : List Cond := [Cond.instanceMethod yX2_limitsOf, Cond.selects RX2 yX2_limitsOf yX2_limitsOf, Cond.code yX2_limitsOf cX2_limitsOf 2 (some .int), Cond.fieldLink RX2 21 "PlateRoom$FactBook" "limitCounts" "[I", Cond.methodLink RX2 49 yX4_setLimit, Cond.instanceMethod yX4_setLimit, Cond.selects RX4 yX4_setLimit yX4_setLimit, Cond.code yX4_setLimit cX4_setLimit 5 none, Cond.fieldLink RX4 9 "PlateRoom$TimeGraph" "tails" "[I", Cond.fieldLink RX4 15 "PlateRoom$TimeGraph" "heads" "[I", Cond.fieldLink RX4 18 "PlateRoom$TimeGraph" "lengths" "[I", Cond.methodLink RX5 141 yX4_measureFrom, Cond.instanceMethod yX4_measureFrom, Cond.selects RX4 yX4_measureFrom yX4_measureFrom, Cond.code yX4_measureFrom cX4_measureFrom 3 (some .boolean), Cond.fieldLink RX4 21 "PlateRoom$TimeGraph" "ways" "[I", Cond.methodLink RX4 46 yX4_startAt, Cond.instanceMethod yX4_startAt, Cond.selects RX4 yX4_startAt yX4_startAt, Cond.code yX4_startAt cX4_startAt 3 none, Cond.constant RX4 45 (536870912), Cond.methodLink RX4 73 yJ7_fill_53178, Cond.static yJ7_fill_53178, Cond.initialized RJ7]
def wsX5_frees_r4 : List Cond := [Cond.code yJ7_fill_53178 cJ7_fill_53178 4 none, Cond.methodLink RX4 54 yX4_followBounds, Cond.instanceMethod yX4_followBounds, Cond.selects RX4 yX4_followBounds yX4_followBounds, Cond.code yX4_followBounds cX4_followBounds 3 none, Cond.methodLink RX4 62 Lib.Math.min.name, Cond.static Lib.Math.min.name, Cond.initialized "java/lang/Math", Cond.code Lib.Math.min.name Lib.Math.min.code 2 (some .int), Cond.methodLink RX4 79 yX4_followRange, Cond.instanceMethod yX4_followRange, Cond.selects RX4 yX4_followRange yX4_followRange, Cond.code yX4_followRange cX4_followRange 3 none, Cond.constant RX4 82 (100000), Cond.methodLink RX4 50 yX4_followLimits, Cond.instanceMethod yX4_followLimits, Cond.selects RX4 yX4_followLimits yX4_followLimits, Cond.code yX4_followLimits cX4_followLimits 8 (some .boolean), Cond.methodLink RX5 148 yX2_isKnown, Cond.methodLink RX5 59 yX5_answer, Cond.instanceMethod yX5_answer, Cond.selects RX5 yX5_answer yX5_answer, Cond.code yX5_answer cX5_answer 2 (some .int)]
def wsX5_frees : List Cond := .code yX5_frees cX5_frees 4 (some .int) :: ((wsX5_frees_r1 ++ (wsX5_frees_r2 ++ (wsX5_frees_r3 ++ wsX5_frees_r4))) ++ wsX50 ++ wsX20 ++ wsX40)
def wsX5_order_r1 : List Cond := [Cond.fieldLink RX5 19 "PlateRoom" "graph" "LPlateRoom$TimeGraph;", Cond.fieldLink RX5 12 "PlateRoom" "facts" "LPlateRoom$FactBook;", Cond.methodLink RX5 94 yX5_areTwoPlates, Cond.instanceMethod yX5_areTwoPlates, Cond.selects RX5 yX5_areTwoPlates yX5_areTwoPlates, Cond.initialized RX5, Cond.code yX5_areTwoPlates cX5_areTwoPlates 3 (some .boolean), Cond.methodLink RX5 65 yX5_isPlate, Cond.instanceMethod yX5_isPlate, Cond.selects RX5 yX5_isPlate yX5_isPlate, Cond.code yX5_isPlate cX5_isPlate 2 (some .boolean), Cond.fieldLink RX5 52 "PlateRoom" "plateCount" "I", Cond.methodLink RX5 72 yX5_isDay, Cond.static yX5_isDay, Cond.code yX5_isDay cX5_isDay 1 (some .boolean), Cond.methodLink RX5 100 yX5_isWithin, Cond.static yX5_isWithin, Cond.code yX5_isWithin cX5_isWithin 3 (some .boolean), Cond.methodLink RX5 114 yX5_whyNot, Cond.static yX5_whyNot, Cond.code yX5_whyNot cX5_whyNot 2 (some .int), Cond.methodLink RX5 55 yX5_refuse, Cond.instanceMethod yX5_refuse, Cond.selects RX5 yX5_refuse yX5_refuse]
def wsX5_order_r2 : List Cond := [Cond.code yX5_refuse cX5_refuse 2 (some .int), Cond.fieldLink RX5 48 "PlateRoom" "lastStatus" "I", Cond.methodLink RX5 137 yX4_gather, Cond.instanceMethod yX4_gather, Cond.selects RX4 yX4_gather yX4_gather, Cond.initialized RX4, Cond.code yX4_gather cX4_gather 5 none, Cond.fieldLink RX4 27 "PlateRoom$TimeGraph" "limitCount" "I", Cond.methodLink RX4 31 yX2_size, Cond.instanceMethod yX2_size, Cond.selects RX2 yX2_size yX2_size, Cond.initialized RX2, Cond.code yX2_size cX2_size 1 (some .int), Cond.fieldLink RX2 33 "PlateRoom$FactBook" "count" "I", Cond.methodLink RX4 37 yX2_isKnown, Cond.instanceMethod yX2_isKnown, Cond.selects RX2 yX2_isKnown yX2_isKnown, Cond.code yX2_isKnown cX2_isKnown 3 (some .boolean), Cond.fieldLink RX2 15 "PlateRoom$FactBook" "toldOn" "[I", Cond.fieldLink RX2 18 "PlateRoom$FactBook" "crossedOn" "[I", Cond.methodLink RX2 41 yX2_has, Cond.instanceMethod yX2_has, Cond.selects RX2 yX2_has yX2_has, Cond.code yX2_has cX2_has 2 (some .boolean)]
def wsX5_order_r3 : List Cond := [Cond.methodLink RX4 41 yX2_copyLimits, Cond.instanceMethod yX2_copyLimits, Cond.selects RX2 yX2_copyLimits yX2_copyLimits, Cond.code yX2_copyLimits cX2_copyLimits 7 (some .int), Cond.fieldLink RX2 24 "PlateRoom$FactBook" "tails" "[I", Cond.fieldLink RX2 27 "PlateRoom$FactBook" "heads" "[I", Cond.fieldLink RX2 30 "PlateRoom$FactBook" "lengths" "[I", Cond.methodLink RX2 45 yX2_limitsOf, Cond.instanceMethod yX2_limitsOf, Cond.selects RX2 yX2_limitsOf yX2_limitsOf, Cond.code yX2_limitsOf cX2_limitsOf 2 (some .int), Cond.fieldLink RX2 21 "PlateRoom$FactBook" "limitCounts" "[I", Cond.methodLink RX2 49 yX4_setLimit, Cond.instanceMethod yX4_setLimit, Cond.selects RX4 yX4_setLimit yX4_setLimit, Cond.code yX4_setLimit cX4_setLimit 5 none, Cond.fieldLink RX4 9 "PlateRoom$TimeGraph" "tails" "[I", Cond.fieldLink RX4 15 "PlateRoom$TimeGraph" "heads" "[I", Cond.fieldLink RX4 18 "PlateRoom$TimeGraph" "lengths" "[I", Cond.methodLink RX5 83 yX5_platePoint, Cond.static yX5_platePoint, Cond.code yX5_platePoint cX5_platePoint 1 (some .int), Cond.methodLink RX5 141 yX4_measureFrom, Cond.instanceMethod yX4_measureFrom]
def wsX5_order_r4 : List Cond := [Cond.selects RX4 yX4_measureFrom yX4_measureFrom, Cond.code yX4_measureFrom cX4_measureFrom 3 (some .boolean), Cond.fieldLink RX4 21 "PlateRoom$TimeGraph" "ways" "[I", Cond.methodLink RX4 46 yX4_startAt, Cond.instanceMethod yX4_startAt, Cond.selects RX4 yX4_startAt yX4_startAt, Cond.code yX4_startAt cX4_startAt 3 none, Cond.constant RX4 45 (536870912), Cond.methodLink RX4 73 yJ7_fill_53178, Cond.static yJ7_fill_53178, Cond.initialized RJ7, Cond.code yJ7_fill_53178 cJ7_fill_53178 4 none, Cond.methodLink RX4 54 yX4_followBounds, Cond.instanceMethod yX4_followBounds, Cond.selects RX4 yX4_followBounds yX4_followBounds, Cond.code yX4_followBounds cX4_followBounds 3 none, Cond.methodLink RX4 62 Lib.Math.min.name, Cond.static Lib.Math.min.name, Cond.initialized "java/lang/Math", Cond.code Lib.Math.min.name Lib.Math.min.code 2 (some .int), Cond.methodLink RX4 79 yX4_followRange, Cond.instanceMethod yX4_followRange, Cond.selects RX4 yX4_followRange yX4_followRange, Cond.code yX4_followRange cX4_followRange 3 none]
def wsX5_order_r5 : List Cond := [Cond.constant RX4 82 (100000), Cond.methodLink RX4 50 yX4_followLimits, Cond.instanceMethod yX4_followLimits, Cond.selects RX4 yX4_followLimits yX4_followLimits, Cond.code yX4_followLimits cX4_followLimits 8 (some .boolean), Cond.methodLink RX5 151 yX4_wayTo, Cond.instanceMethod yX4_wayTo, Cond.selects RX4 yX4_wayTo yX4_wayTo, Cond.code yX4_wayTo cX4_wayTo 2 (some .int), Cond.methodLink RX5 59 yX5_answer, Cond.instanceMethod yX5_answer, Cond.selects RX5 yX5_answer yX5_answer, Cond.code yX5_answer cX5_answer 2 (some .int)]
def wsX5_order : List Cond := .code yX5_order cX5_order 6 (some .int) :: ((wsX5_order_r1 ++ (wsX5_order_r2 ++ (wsX5_order_r3 ++ (wsX5_order_r4 ++ wsX5_order_r5)))) ++ wsX50 ++ wsX40 ++ wsX20)
def wsX5_edges_r1 : List Cond := [Cond.fieldLink RX5 48 "PlateRoom" "lastStatus" "I", Cond.fieldLink RX5 26 "PlateRoom" "table" "LPlateRoom$EdgeTable;", Cond.methodLink RX5 100 yX5_isWithin, Cond.static yX5_isWithin, Cond.initialized RX5, Cond.code yX5_isWithin cX5_isWithin 3 (some .boolean), Cond.methodLink RX5 65 yX5_isPlate, Cond.instanceMethod yX5_isPlate, Cond.selects RX5 yX5_isPlate yX5_isPlate, Cond.code yX5_isPlate cX5_isPlate 2 (some .boolean), Cond.fieldLink RX5 52 "PlateRoom" "plateCount" "I", Cond.methodLink RX5 114 yX5_whyNot, Cond.static yX5_whyNot, Cond.code yX5_whyNot cX5_whyNot 2 (some .int), Cond.methodLink RX5 154 yX1_setEdges, Cond.instanceMethod yX1_setEdges, Cond.selects RX1 yX1_setEdges yX1_setEdges, Cond.initialized RX1, Cond.code yX1_setEdges cX1_setEdges 5 none, Cond.fieldLink RX1 9 "PlateRoom$EdgeTable" "lefts" "[I", Cond.fieldLink RX1 15 "PlateRoom$EdgeTable" "rights" "[I", Cond.methodLink RX1 27 yX1_compare, Cond.instanceMethod yX1_compare, Cond.selects RX1 yX1_compare yX1_compare]
def wsX5_edges_r2 : List Cond := [Cond.code yX1_compare cX1_compare 4 none, Cond.fieldLink RX1 18 "PlateRoom$EdgeTable" "likeLeft" "[I", Cond.fieldLink RX1 21 "PlateRoom$EdgeTable" "leftOf" "[I", Cond.fieldLink RX1 24 "PlateRoom$EdgeTable" "rightOf" "[I", Cond.methodLink RX1 31 yX1_fits, Cond.static yX1_fits, Cond.code yX1_fits cX1_fits 2 (some .boolean)]
def wsX5_edges : List Cond := .code yX5_edges cX5_edges 5 (some .boolean) :: ((wsX5_edges_r1 ++ wsX5_edges_r2) ++ wsX50 ++ wsX10)
def wsX5_isSet : List Cond := .code yX5_isSet cX5_isSet 3 (some .boolean) :: ([.fieldLink RX5 52 "PlateRoom" "plateCount" "I"] ++ wsX50)
def wsX5_whyNoRow_r1 : List Cond := [Cond.fieldLink RX5 26 "PlateRoom" "table" "LPlateRoom$EdgeTable;", Cond.methodLink RX5 170 yX5_isSet, Cond.instanceMethod yX5_isSet, Cond.selects RX5 yX5_isSet yX5_isSet, Cond.initialized RX5, Cond.code yX5_isSet cX5_isSet 3 (some .boolean), Cond.fieldLink RX5 52 "PlateRoom" "plateCount" "I", Cond.methodLink RX5 173 yX1_fewestRows, Cond.instanceMethod yX1_fewestRows, Cond.selects RX1 yX1_fewestRows yX1_fewestRows, Cond.initialized RX1, Cond.code yX1_fewestRows cX1_fewestRows 6 (some .int), Cond.methodLink RX1 41 Lib.Math.max.name, Cond.static Lib.Math.max.name, Cond.initialized "java/lang/Math", Cond.code Lib.Math.max.name Lib.Math.max.code 2 (some .int), Cond.methodLink RX1 53 yX1_partOf, Cond.instanceMethod yX1_partOf, Cond.selects RX1 yX1_partOf yX1_partOf, Cond.code yX1_partOf cX1_partOf 6 (some .int), Cond.fieldLink RX1 21 "PlateRoom$EdgeTable" "leftOf" "[I", Cond.fieldLink RX1 24 "PlateRoom$EdgeTable" "rightOf" "[I", Cond.methodLink RX1 47 yX1_holds, Cond.static yX1_holds]
def wsX5_whyNoRow_r2 : List Cond := [Cond.code yX1_holds cX1_holds 2 (some .boolean), Cond.methodLink RX1 56 yX1_startsIn, Cond.instanceMethod yX1_startsIn, Cond.selects RX1 yX1_startsIn yX1_startsIn, Cond.code yX1_startsIn cX1_startsIn 5 (some .int), Cond.fieldLink RX1 18 "PlateRoom$EdgeTable" "likeLeft" "[I", Cond.methodLink RX1 50 yX1_missingLeftOf, Cond.instanceMethod yX1_missingLeftOf, Cond.selects RX1 yX1_missingLeftOf yX1_missingLeftOf, Cond.code yX1_missingLeftOf cX1_missingLeftOf 3 (some .int), Cond.methodLink RX1 35 yJ6_bitCount_0f7a4, Cond.static yJ6_bitCount_0f7a4, Cond.initialized RJ6, Cond.code yJ6_bitCount_0f7a4 cJ6_bitCount_0f7a4 1 (some .int), Cond.constant RJ6 265 (1431655765), Cond.constant RJ6 266 (858993459), Cond.constant RJ6 267 (252645135)]
def wsX5_whyNoRow : List Cond := .code yX5_whyNoRow cX5_whyNoRow 2 (some .int) :: ((wsX5_whyNoRow_r1 ++ wsX5_whyNoRow_r2) ++ wsX50 ++ wsX10)
def wsX5_row_r1 : List Cond := [Cond.fieldLink RX5 26 "PlateRoom" "table" "LPlateRoom$EdgeTable;", Cond.fieldLink RX5 44 "PlateRoom" "outRow" "[I", Cond.fieldLink RX5 164 "PlateRoom" "outLength" "I", Cond.methodLink RX5 157 yX5_whyNoRow, Cond.instanceMethod yX5_whyNoRow, Cond.selects RX5 yX5_whyNoRow yX5_whyNoRow, Cond.initialized RX5, Cond.code yX5_whyNoRow cX5_whyNoRow 2 (some .int), Cond.methodLink RX5 170 yX5_isSet, Cond.instanceMethod yX5_isSet, Cond.selects RX5 yX5_isSet yX5_isSet, Cond.code yX5_isSet cX5_isSet 3 (some .boolean), Cond.fieldLink RX5 52 "PlateRoom" "plateCount" "I", Cond.methodLink RX5 173 yX1_fewestRows, Cond.instanceMethod yX1_fewestRows, Cond.selects RX1 yX1_fewestRows yX1_fewestRows, Cond.initialized RX1, Cond.code yX1_fewestRows cX1_fewestRows 6 (some .int), Cond.methodLink RX1 41 Lib.Math.max.name, Cond.static Lib.Math.max.name, Cond.initialized "java/lang/Math", Cond.code Lib.Math.max.name Lib.Math.max.code 2 (some .int), Cond.methodLink RX1 53 yX1_partOf, Cond.instanceMethod yX1_partOf]
def wsX5_row_r2 : List Cond := [Cond.selects RX1 yX1_partOf yX1_partOf, Cond.code yX1_partOf cX1_partOf 6 (some .int), Cond.fieldLink RX1 21 "PlateRoom$EdgeTable" "leftOf" "[I", Cond.fieldLink RX1 24 "PlateRoom$EdgeTable" "rightOf" "[I", Cond.methodLink RX1 47 yX1_holds, Cond.static yX1_holds, Cond.code yX1_holds cX1_holds 2 (some .boolean), Cond.methodLink RX1 56 yX1_startsIn, Cond.instanceMethod yX1_startsIn, Cond.selects RX1 yX1_startsIn yX1_startsIn, Cond.code yX1_startsIn cX1_startsIn 5 (some .int), Cond.fieldLink RX1 18 "PlateRoom$EdgeTable" "likeLeft" "[I", Cond.methodLink RX1 50 yX1_missingLeftOf, Cond.instanceMethod yX1_missingLeftOf, Cond.selects RX1 yX1_missingLeftOf yX1_missingLeftOf, Cond.code yX1_missingLeftOf cX1_missingLeftOf 3 (some .int), Cond.methodLink RX1 35 yJ6_bitCount_0f7a4, Cond.static yJ6_bitCount_0f7a4, Cond.initialized RJ6, Cond.code yJ6_bitCount_0f7a4 cJ6_bitCount_0f7a4 1 (some .int), Cond.constant RJ6 265 (1431655765), Cond.constant RJ6 266 (858993459), Cond.constant RJ6 267 (252645135), Cond.methodLink RX5 55 yX5_refuse]
def wsX5_row_r3 : List Cond := [Cond.instanceMethod yX5_refuse, Cond.selects RX5 yX5_refuse yX5_refuse, Cond.code yX5_refuse cX5_refuse 2 (some .int), Cond.fieldLink RX5 48 "PlateRoom" "lastStatus" "I", Cond.methodLink RX5 160 yX1_writeFirstRow, Cond.instanceMethod yX1_writeFirstRow, Cond.selects RX1 yX1_writeFirstRow yX1_writeFirstRow, Cond.code yX1_writeFirstRow cX1_writeFirstRow 7 (some .int), Cond.methodLink RX1 59 yX1_firstPlaces, Cond.instanceMethod yX1_firstPlaces, Cond.selects RX1 yX1_firstPlaces yX1_firstPlaces, Cond.code yX1_firstPlaces cX1_firstPlaces 4 (some .int), Cond.methodLink RX1 62 yX1_leastThatGoesOn, Cond.instanceMethod yX1_leastThatGoesOn, Cond.selects RX1 yX1_leastThatGoesOn yX1_leastThatGoesOn, Cond.code yX1_leastThatGoesOn cX1_leastThatGoesOn 4 (some .int), Cond.methodLink RX1 65 yX1_goesOn, Cond.instanceMethod yX1_goesOn, Cond.selects RX1 yX1_goesOn yX1_goesOn, Cond.code yX1_goesOn cX1_goesOn 3 (some .boolean), Cond.methodLink RX5 59 yX5_answer, Cond.instanceMethod yX5_answer, Cond.selects RX5 yX5_answer yX5_answer, Cond.code yX5_answer cX5_answer 2 (some .int)]
def wsX5_row : List Cond := .code yX5_row cX5_row 3 (some .int) :: ((wsX5_row_r1 ++ (wsX5_row_r2 ++ wsX5_row_r3)) ++ wsX50 ++ wsX10)
def wsX5_ring_r1 : List Cond := [Cond.fieldLink RX5 26 "PlateRoom" "table" "LPlateRoom$EdgeTable;", Cond.methodLink RX5 157 yX5_whyNoRow, Cond.instanceMethod yX5_whyNoRow, Cond.selects RX5 yX5_whyNoRow yX5_whyNoRow, Cond.initialized RX5, Cond.code yX5_whyNoRow cX5_whyNoRow 2 (some .int), Cond.methodLink RX5 170 yX5_isSet, Cond.instanceMethod yX5_isSet, Cond.selects RX5 yX5_isSet yX5_isSet, Cond.code yX5_isSet cX5_isSet 3 (some .boolean), Cond.fieldLink RX5 52 "PlateRoom" "plateCount" "I", Cond.methodLink RX5 173 yX1_fewestRows, Cond.instanceMethod yX1_fewestRows, Cond.selects RX1 yX1_fewestRows yX1_fewestRows, Cond.initialized RX1, Cond.code yX1_fewestRows cX1_fewestRows 6 (some .int), Cond.methodLink RX1 41 Lib.Math.max.name, Cond.static Lib.Math.max.name, Cond.initialized "java/lang/Math", Cond.code Lib.Math.max.name Lib.Math.max.code 2 (some .int), Cond.methodLink RX1 53 yX1_partOf, Cond.instanceMethod yX1_partOf, Cond.selects RX1 yX1_partOf yX1_partOf, Cond.code yX1_partOf cX1_partOf 6 (some .int)]
def wsX5_ring_r2 : List Cond := [Cond.fieldLink RX1 21 "PlateRoom$EdgeTable" "leftOf" "[I", Cond.fieldLink RX1 24 "PlateRoom$EdgeTable" "rightOf" "[I", Cond.methodLink RX1 47 yX1_holds, Cond.static yX1_holds, Cond.code yX1_holds cX1_holds 2 (some .boolean), Cond.methodLink RX1 56 yX1_startsIn, Cond.instanceMethod yX1_startsIn, Cond.selects RX1 yX1_startsIn yX1_startsIn, Cond.code yX1_startsIn cX1_startsIn 5 (some .int), Cond.fieldLink RX1 18 "PlateRoom$EdgeTable" "likeLeft" "[I", Cond.methodLink RX1 50 yX1_missingLeftOf, Cond.instanceMethod yX1_missingLeftOf, Cond.selects RX1 yX1_missingLeftOf yX1_missingLeftOf, Cond.code yX1_missingLeftOf cX1_missingLeftOf 3 (some .int), Cond.methodLink RX1 35 yJ6_bitCount_0f7a4, Cond.static yJ6_bitCount_0f7a4, Cond.initialized RJ6, Cond.code yJ6_bitCount_0f7a4 cJ6_bitCount_0f7a4 1 (some .int), Cond.constant RJ6 265 (1431655765), Cond.constant RJ6 266 (858993459), Cond.constant RJ6 267 (252645135), Cond.methodLink RX5 55 yX5_refuse, Cond.instanceMethod yX5_refuse, Cond.selects RX5 yX5_refuse yX5_refuse]
def wsX5_ring_r3 : List Cond := [Cond.code yX5_refuse cX5_refuse 2 (some .int), Cond.fieldLink RX5 48 "PlateRoom" "lastStatus" "I", Cond.methodLink RX5 167 yX1_startsIn, Cond.methodLink RX5 59 yX5_answer, Cond.instanceMethod yX5_answer, Cond.selects RX5 yX5_answer yX5_answer, Cond.code yX5_answer cX5_answer 2 (some .int)]
def wsX5_ring : List Cond := .code yX5_ring cX5_ring 3 (some .int) :: ((wsX5_ring_r1 ++ (wsX5_ring_r2 ++ wsX5_ring_r3)) ++ wsX50 ++ wsX10)
def wsX5_rows_r1 : List Cond := [Cond.fieldLink RX5 26 "PlateRoom" "table" "LPlateRoom$EdgeTable;", Cond.methodLink RX5 170 yX5_isSet, Cond.instanceMethod yX5_isSet, Cond.selects RX5 yX5_isSet yX5_isSet, Cond.initialized RX5, Cond.code yX5_isSet cX5_isSet 3 (some .boolean), Cond.fieldLink RX5 52 "PlateRoom" "plateCount" "I", Cond.methodLink RX5 55 yX5_refuse, Cond.instanceMethod yX5_refuse, Cond.selects RX5 yX5_refuse yX5_refuse, Cond.code yX5_refuse cX5_refuse 2 (some .int), Cond.fieldLink RX5 48 "PlateRoom" "lastStatus" "I", Cond.methodLink RX5 173 yX1_fewestRows, Cond.instanceMethod yX1_fewestRows, Cond.selects RX1 yX1_fewestRows yX1_fewestRows, Cond.initialized RX1, Cond.code yX1_fewestRows cX1_fewestRows 6 (some .int), Cond.methodLink RX1 41 Lib.Math.max.name, Cond.static Lib.Math.max.name, Cond.initialized "java/lang/Math", Cond.code Lib.Math.max.name Lib.Math.max.code 2 (some .int), Cond.methodLink RX1 53 yX1_partOf, Cond.instanceMethod yX1_partOf, Cond.selects RX1 yX1_partOf yX1_partOf]
def wsX5_rows_r2 : List Cond := [Cond.code yX1_partOf cX1_partOf 6 (some .int), Cond.fieldLink RX1 21 "PlateRoom$EdgeTable" "leftOf" "[I", Cond.fieldLink RX1 24 "PlateRoom$EdgeTable" "rightOf" "[I", Cond.methodLink RX1 47 yX1_holds, Cond.static yX1_holds, Cond.code yX1_holds cX1_holds 2 (some .boolean), Cond.methodLink RX1 56 yX1_startsIn, Cond.instanceMethod yX1_startsIn, Cond.selects RX1 yX1_startsIn yX1_startsIn, Cond.code yX1_startsIn cX1_startsIn 5 (some .int), Cond.fieldLink RX1 18 "PlateRoom$EdgeTable" "likeLeft" "[I", Cond.methodLink RX1 50 yX1_missingLeftOf, Cond.instanceMethod yX1_missingLeftOf, Cond.selects RX1 yX1_missingLeftOf yX1_missingLeftOf, Cond.code yX1_missingLeftOf cX1_missingLeftOf 3 (some .int), Cond.methodLink RX1 35 yJ6_bitCount_0f7a4, Cond.static yJ6_bitCount_0f7a4, Cond.initialized RJ6, Cond.code yJ6_bitCount_0f7a4 cJ6_bitCount_0f7a4 1 (some .int), Cond.constant RJ6 265 (1431655765), Cond.constant RJ6 266 (858993459), Cond.constant RJ6 267 (252645135), Cond.methodLink RX5 59 yX5_answer, Cond.instanceMethod yX5_answer]
def wsX5_rows_r3 : List Cond := [Cond.selects RX5 yX5_answer yX5_answer, Cond.code yX5_answer cX5_answer 2 (some .int)]
def wsX5_rows : List Cond := .code yX5_rows cX5_rows 2 (some .int) :: ((wsX5_rows_r1 ++ (wsX5_rows_r2 ++ wsX5_rows_r3)) ++ wsX50 ++ wsX10)
def wsX5_out : List Cond := .code yX5_out cX5_out 2 (some .int) :: ([.fieldLink RX5 164 "PlateRoom" "outLength" "I", .fieldLink RX5 44 "PlateRoom" "outRow" "[I"] ++ wsX50)
def wsX5_want : List Cond := .code yX5_want cX5_want 6 (some .boolean) :: ([.fieldLink RX5 48 "PlateRoom" "lastStatus" "I", .fieldLink RX5 33 "PlateRoom" "plan" "LPlateRoom$CopyPlan;", .methodLink RX5 100 yX5_isWithin, .static yX5_isWithin, .initialized RX5, .code yX5_isWithin cX5_isWithin 3 (some .boolean), .methodLink RX5 65 yX5_isPlate, .instanceMethod yX5_isPlate, .selects RX5 yX5_isPlate yX5_isPlate, .code yX5_isPlate cX5_isPlate 2 (some .boolean), .fieldLink RX5 52 "PlateRoom" "plateCount" "I", .methodLink RX5 114 yX5_whyNot, .static yX5_whyNot, .code yX5_whyNot cX5_whyNot 2 (some .int), .methodLink RX5 176 yX0_setWish, .instanceMethod yX0_setWish, .selects RX0 yX0_setWish yX0_setWish, .initialized RX0, .code yX0_setWish cX0_setWish 5 none, .fieldLink RX0 9 "PlateRoom$CopyPlan" "wanted" "[I", .fieldLink RX0 15 "PlateRoom$CopyPlan" "hours" "[I", .fieldLink RX0 18 "PlateRoom$CopyPlan" "lost" "[I"] ++ wsX50 ++ wsX00)
def wsX5_best_r1 : List Cond := [Cond.fieldLink RX5 33 "PlateRoom" "plan" "LPlateRoom$CopyPlan;", Cond.fieldLink RX5 52 "PlateRoom" "plateCount" "I", Cond.methodLink RX5 180 yX0_choose, Cond.instanceMethod yX0_choose, Cond.selects RX0 yX0_choose yX0_choose, Cond.initialized RX0, Cond.code yX0_choose cX0_choose 6 none, Cond.methodLink RX0 34 Lib.Math.min.name, Cond.static Lib.Math.min.name, Cond.initialized "java/lang/Math", Cond.code Lib.Math.min.name Lib.Math.min.code 2 (some .int), Cond.fieldLink RX0 24 "PlateRoom$CopyPlan" "worths" "[J", Cond.constantLong RX0 44 (-1), Cond.fieldLink RX0 21 "PlateRoom$CopyPlan" "turns" "[I", Cond.fieldLink RX0 15 "PlateRoom$CopyPlan" "hours" "[I", Cond.fieldLink RX0 18 "PlateRoom$CopyPlan" "lost" "[I", Cond.fieldLink RX0 53 "PlateRoom$CopyPlan" "bestWorth" "J", Cond.methodLink RX0 57 Lib.MathLoose.max_long.x, Cond.static Lib.MathLoose.max_long.x, Cond.code Lib.MathLoose.max_long.x Lib.MathLoose.max_long.code 4 (some .long), Cond.methodLink RX0 40 yX0_sortTurns, Cond.instanceMethod yX0_sortTurns, Cond.selects RX0 yX0_sortTurns yX0_sortTurns, Cond.code yX0_sortTurns cX0_sortTurns 4 none]
def wsX5_best_r2 : List Cond := [Cond.methodLink RX0 46 yJ7_fill_d0a16, Cond.static yJ7_fill_d0a16, Cond.initialized RJ7, Cond.code yJ7_fill_d0a16 cJ7_fill_d0a16 5 none, Cond.methodLink RX0 49 yX0_offer, Cond.instanceMethod yX0_offer, Cond.selects RX0 yX0_offer yX0_offer, Cond.code yX0_offer cX0_offer 6 none, Cond.methodLink RX0 61 yX0_worthOf, Cond.instanceMethod yX0_worthOf, Cond.selects RX0 yX0_worthOf yX0_worthOf, Cond.code yX0_worthOf cX0_worthOf 2 (some .long), Cond.fieldLink RX0 9 "PlateRoom$CopyPlan" "wanted" "[I", Cond.methodLink RX0 65 yX0_bitOf, Cond.static yX0_bitOf, Cond.code yX0_bitOf cX0_bitOf 1 (some .long), Cond.methodLink RX5 184 yX0_wantedTogether, Cond.instanceMethod yX0_wantedTogether, Cond.selects RX0 yX0_wantedTogether yX0_wantedTogether, Cond.code yX0_wantedTogether cX0_wantedTogether 1 (some .int), Cond.methodLink RX5 59 yX5_answer, Cond.instanceMethod yX5_answer, Cond.selects RX5 yX5_answer yX5_answer, Cond.initialized RX5]
def wsX5_best_r3 : List Cond := [Cond.code yX5_answer cX5_answer 2 (some .int), Cond.fieldLink RX5 48 "PlateRoom" "lastStatus" "I"]
def wsX5_best : List Cond := .code yX5_best cX5_best 1 (some .int) :: ((wsX5_best_r1 ++ (wsX5_best_r2 ++ wsX5_best_r3)) ++ wsX50 ++ wsX00)
def wsX5_hour_r1 : List Cond := [Cond.fieldLink RX5 33 "PlateRoom" "plan" "LPlateRoom$CopyPlan;", Cond.fieldLink RX5 52 "PlateRoom" "plateCount" "I", Cond.methodLink RX5 65 yX5_isPlate, Cond.instanceMethod yX5_isPlate, Cond.selects RX5 yX5_isPlate yX5_isPlate, Cond.initialized RX5, Cond.code yX5_isPlate cX5_isPlate 2 (some .boolean), Cond.methodLink RX5 55 yX5_refuse, Cond.instanceMethod yX5_refuse, Cond.selects RX5 yX5_refuse yX5_refuse, Cond.code yX5_refuse cX5_refuse 2 (some .int), Cond.fieldLink RX5 48 "PlateRoom" "lastStatus" "I", Cond.methodLink RX5 180 yX0_choose, Cond.instanceMethod yX0_choose, Cond.selects RX0 yX0_choose yX0_choose, Cond.initialized RX0, Cond.code yX0_choose cX0_choose 6 none, Cond.methodLink RX0 34 Lib.Math.min.name, Cond.static Lib.Math.min.name, Cond.initialized "java/lang/Math", Cond.code Lib.Math.min.name Lib.Math.min.code 2 (some .int), Cond.fieldLink RX0 24 "PlateRoom$CopyPlan" "worths" "[J", Cond.constantLong RX0 44 (-1), Cond.fieldLink RX0 21 "PlateRoom$CopyPlan" "turns" "[I"]
def wsX5_hour_r2 : List Cond := [Cond.fieldLink RX0 15 "PlateRoom$CopyPlan" "hours" "[I", Cond.fieldLink RX0 18 "PlateRoom$CopyPlan" "lost" "[I", Cond.fieldLink RX0 53 "PlateRoom$CopyPlan" "bestWorth" "J", Cond.methodLink RX0 57 Lib.MathLoose.max_long.x, Cond.static Lib.MathLoose.max_long.x, Cond.code Lib.MathLoose.max_long.x Lib.MathLoose.max_long.code 4 (some .long), Cond.methodLink RX0 40 yX0_sortTurns, Cond.instanceMethod yX0_sortTurns, Cond.selects RX0 yX0_sortTurns yX0_sortTurns, Cond.code yX0_sortTurns cX0_sortTurns 4 none, Cond.methodLink RX0 46 yJ7_fill_d0a16, Cond.static yJ7_fill_d0a16, Cond.initialized RJ7, Cond.code yJ7_fill_d0a16 cJ7_fill_d0a16 5 none, Cond.methodLink RX0 49 yX0_offer, Cond.instanceMethod yX0_offer, Cond.selects RX0 yX0_offer yX0_offer, Cond.code yX0_offer cX0_offer 6 none, Cond.methodLink RX0 61 yX0_worthOf, Cond.instanceMethod yX0_worthOf, Cond.selects RX0 yX0_worthOf yX0_worthOf, Cond.code yX0_worthOf cX0_worthOf 2 (some .long), Cond.fieldLink RX0 9 "PlateRoom$CopyPlan" "wanted" "[I", Cond.methodLink RX0 65 yX0_bitOf]
def wsX5_hour_r3 : List Cond := [Cond.static yX0_bitOf, Cond.code yX0_bitOf cX0_bitOf 1 (some .long), Cond.methodLink RX5 187 yX0_isChosen, Cond.instanceMethod yX0_isChosen, Cond.selects RX0 yX0_isChosen yX0_isChosen, Cond.code yX0_isChosen cX0_isChosen 2 (some .boolean), Cond.methodLink RX5 190 yX0_beginningOf, Cond.instanceMethod yX0_beginningOf, Cond.selects RX0 yX0_beginningOf yX0_beginningOf, Cond.code yX0_beginningOf cX0_beginningOf 6 (some .int), Cond.methodLink RX0 68 yX0_isChosen, Cond.methodLink RX5 59 yX5_answer, Cond.instanceMethod yX5_answer, Cond.selects RX5 yX5_answer yX5_answer, Cond.code yX5_answer cX5_answer 2 (some .int)]
def wsX5_hour : List Cond := .code yX5_hour cX5_hour 2 (some .int) :: ((wsX5_hour_r1 ++ (wsX5_hour_r2 ++ wsX5_hour_r3)) ++ wsX50 ++ wsX00)
def wsX5_law : List Cond := .code yX5_law cX5_law 4 (some .boolean) :: ([.constant RX5 99 (100000), .constant RX5 193 (50000), .fieldLink RX5 40 "PlateRoom" "rights" "LPlateRoom$RightsBook;", .fieldLink RX5 48 "PlateRoom" "lastStatus" "I", .methodLink RX5 100 yX5_isWithin, .static yX5_isWithin, .initialized RX5, .code yX5_isWithin cX5_isWithin 3 (some .boolean), .methodLink RX5 114 yX5_whyNot, .static yX5_whyNot, .code yX5_whyNot cX5_whyNot 2 (some .int), .methodLink RX5 194 yX3_hasAllLaws, .instanceMethod yX3_hasAllLaws, .selects RX3 yX3_hasAllLaws yX3_hasAllLaws, .initialized RX3, .code yX3_hasAllLaws cX3_hasAllLaws 1 (some .boolean), .fieldLink RX3 27 "PlateRoom$RightsBook" "lawCount" "I", .methodLink RX5 198 yX3_addLaw, .instanceMethod yX3_addLaw, .selects RX3 yX3_addLaw yX3_addLaw, .code yX3_addLaw cX3_addLaw 3 none, .fieldLink RX3 9 "PlateRoom$RightsBook" "lawStarts" "[I", .fieldLink RX3 15 "PlateRoom$RightsBook" "lawDays" "[I", .methodLink RX3 34 yX3_hasAllLaws] ++ wsX50 ++ wsX30)
def wsX5_death_r1 : List Cond := [Cond.constant RX5 99 (100000), Cond.fieldLink RX5 40 "PlateRoom" "rights" "LPlateRoom$RightsBook;", Cond.fieldLink RX5 48 "PlateRoom" "lastStatus" "I", Cond.methodLink RX5 65 yX5_isPlate, Cond.instanceMethod yX5_isPlate, Cond.selects RX5 yX5_isPlate yX5_isPlate, Cond.initialized RX5, Cond.code yX5_isPlate cX5_isPlate 2 (some .boolean), Cond.fieldLink RX5 52 "PlateRoom" "plateCount" "I", Cond.methodLink RX5 100 yX5_isWithin, Cond.static yX5_isWithin, Cond.code yX5_isWithin cX5_isWithin 3 (some .boolean), Cond.methodLink RX5 72 yX5_isDay, Cond.static yX5_isDay, Cond.code yX5_isDay cX5_isDay 1 (some .boolean), Cond.methodLink RX5 114 yX5_whyNot, Cond.static yX5_whyNot, Cond.code yX5_whyNot cX5_whyNot 2 (some .int), Cond.methodLink RX5 201 yX3_hasAllDeaths, Cond.instanceMethod yX3_hasAllDeaths, Cond.selects RX3 yX3_hasAllDeaths yX3_hasAllDeaths, Cond.initialized RX3, Cond.code yX3_hasAllDeaths cX3_hasAllDeaths 1 (some .boolean), Cond.fieldLink RX3 31 "PlateRoom$RightsBook" "deathCount" "I"]
def wsX5_death_r2 : List Cond := [Cond.methodLink RX5 204 yX3_addDeath, Cond.instanceMethod yX3_addDeath, Cond.selects RX3 yX3_addDeath yX3_addDeath, Cond.code yX3_addDeath cX3_addDeath 4 none, Cond.fieldLink RX3 18 "PlateRoom$RightsBook" "deathPlates" "[I", Cond.fieldLink RX3 21 "PlateRoom$RightsBook" "deathDays" "[I", Cond.fieldLink RX3 24 "PlateRoom$RightsBook" "deathsToldOn" "[I", Cond.methodLink RX3 38 yX3_hasAllDeaths]
def wsX5_death : List Cond := .code yX5_death cX5_death 5 (some .boolean) :: ((wsX5_death_r1 ++ wsX5_death_r2) ++ wsX50 ++ wsX30)
def wsX5_free_r1 : List Cond := [Cond.constant RX5 207 (200000), Cond.fieldLink RX5 40 "PlateRoom" "rights" "LPlateRoom$RightsBook;", Cond.methodLink RX5 65 yX5_isPlate, Cond.instanceMethod yX5_isPlate, Cond.selects RX5 yX5_isPlate yX5_isPlate, Cond.initialized RX5, Cond.code yX5_isPlate cX5_isPlate 2 (some .boolean), Cond.fieldLink RX5 52 "PlateRoom" "plateCount" "I", Cond.methodLink RX5 100 yX5_isWithin, Cond.static yX5_isWithin, Cond.code yX5_isWithin cX5_isWithin 3 (some .boolean), Cond.methodLink RX5 72 yX5_isDay, Cond.static yX5_isDay, Cond.code yX5_isDay cX5_isDay 1 (some .boolean), Cond.methodLink RX5 114 yX5_whyNot, Cond.static yX5_whyNot, Cond.code yX5_whyNot cX5_whyNot 2 (some .int), Cond.methodLink RX5 55 yX5_refuse, Cond.instanceMethod yX5_refuse, Cond.selects RX5 yX5_refuse yX5_refuse, Cond.code yX5_refuse cX5_refuse 2 (some .int), Cond.fieldLink RX5 48 "PlateRoom" "lastStatus" "I", Cond.methodLink RX5 208 yX3_isFreeOn, Cond.instanceMethod yX3_isFreeOn]
def wsX5_free_r2 : List Cond := [Cond.selects RX3 yX3_isFreeOn yX3_isFreeOn, Cond.initialized RX3, Cond.code yX3_isFreeOn cX3_isFreeOn 6 (some .boolean), Cond.fieldLink RX3 21 "PlateRoom$RightsBook" "deathDays" "[I", Cond.fieldLink RX3 15 "PlateRoom$RightsBook" "lawDays" "[I", Cond.methodLink RX3 41 yX3_lawInForce, Cond.instanceMethod yX3_lawInForce, Cond.selects RX3 yX3_lawInForce yX3_lawInForce, Cond.code yX3_lawInForce cX3_lawInForce 4 (some .int), Cond.fieldLink RX3 27 "PlateRoom$RightsBook" "lawCount" "I", Cond.fieldLink RX3 9 "PlateRoom$RightsBook" "lawStarts" "[I", Cond.methodLink RX3 45 yX3_deathKnown, Cond.instanceMethod yX3_deathKnown, Cond.selects RX3 yX3_deathKnown yX3_deathKnown, Cond.code yX3_deathKnown cX3_deathKnown 6 (some .int), Cond.fieldLink RX3 31 "PlateRoom$RightsBook" "deathCount" "I", Cond.fieldLink RX3 18 "PlateRoom$RightsBook" "deathPlates" "[I", Cond.fieldLink RX3 24 "PlateRoom$RightsBook" "deathsToldOn" "[I", Cond.methodLink RX5 59 yX5_answer, Cond.instanceMethod yX5_answer, Cond.selects RX5 yX5_answer yX5_answer, Cond.code yX5_answer cX5_answer 2 (some .int)]
def wsX5_free : List Cond := .code yX5_free cX5_free 5 (some .int) :: ((wsX5_free_r1 ++ wsX5_free_r2) ++ wsX50 ++ wsX30)
def wsX6_init_r1 : List Cond := [Cond.methodLink RX6 1 objectInit, Cond.instanceMethod objectInit, Cond.code objectInit ⟨#[0xb1]⟩ 1 none, Cond.arrayClass .int, Cond.fieldLink RX6 7 "PlateRoomModel" "kind" "[I", Cond.fieldLink RX6 13 "PlateRoomModel" "first" "[I", Cond.fieldLink RX6 16 "PlateRoomModel" "second" "[I", Cond.fieldLink RX6 19 "PlateRoomModel" "third" "[I", Cond.fieldLink RX6 22 "PlateRoomModel" "told" "[I", Cond.fieldLink RX6 25 "PlateRoomModel" "crossed" "[I", Cond.fieldLink RX6 28 "PlateRoomModel" "wayFrom" "[I", Cond.fieldLink RX6 31 "PlateRoomModel" "wayTo" "[I", Cond.arrayClass .long, Cond.fieldLink RX6 34 "PlateRoomModel" "wayMore" "[J", Cond.fieldLink RX6 38 "PlateRoomModel" "far" "[J", Cond.fieldLink RX6 41 "PlateRoomModel" "more" "[J", Cond.fieldLink RX6 44 "PlateRoomModel" "now" "[J", Cond.fieldLink RX6 47 "PlateRoomModel" "left" "[I", Cond.fieldLink RX6 50 "PlateRoomModel" "right" "[I", Cond.fieldLink RX6 53 "PlateRoomModel" "out" "[I", Cond.fieldLink RX6 56 "PlateRoomModel" "row" "[I", Cond.fieldLink RX6 59 "PlateRoomModel" "excess" "[I", Cond.fieldLink RX6 62 "PlateRoomModel" "mark" "[I", Cond.fieldLink RX6 65 "PlateRoomModel" "wanted" "[I"]
def wsX6_init_r2 : List Cond := [Cond.fieldLink RX6 68 "PlateRoomModel" "hours" "[I", Cond.fieldLink RX6 71 "PlateRoomModel" "lost" "[I", Cond.fieldLink RX6 74 "PlateRoomModel" "order" "[I", Cond.fieldLink RX6 77 "PlateRoomModel" "fixed" "[I", Cond.fieldLink RX6 80 "PlateRoomModel" "most" "[I", Cond.fieldLink RX6 83 "PlateRoomModel" "then" "[I", Cond.fieldLink RX6 86 "PlateRoomModel" "lawFrom" "[I", Cond.fieldLink RX6 89 "PlateRoomModel" "lawDays" "[I", Cond.fieldLink RX6 92 "PlateRoomModel" "deathOf" "[I", Cond.fieldLink RX6 95 "PlateRoomModel" "deathDay" "[I", Cond.fieldLink RX6 98 "PlateRoomModel" "deathTold" "[I"]
def wsX6_init : List Cond := .code yX6_init cX6_init 1 none :: ((wsX6_init_r1 ++ wsX6_init_r2) ++ wsX60)
def wsX6_status : List Cond := .code yX6_status cX6_status 1 (some .int) :: ([.fieldLink RX6 101 "PlateRoomModel" "thrown" "I", .fieldLink RX6 105 "PlateRoomModel" "status" "I"] ++ wsX60)
def wsX6_refuse : List Cond := .code yX6_refuse cX6_refuse 2 (some .int) :: ([.fieldLink RX6 105 "PlateRoomModel" "status" "I"] ++ wsX60)
def wsX6_no : List Cond := .code yX6_no cX6_no 2 (some .boolean) :: ([.fieldLink RX6 105 "PlateRoomModel" "status" "I"] ++ wsX60)
def wsX6_isPlate : List Cond := .code yX6_isPlate cX6_isPlate 2 (some .boolean) :: ([.fieldLink RX6 108 "PlateRoomModel" "plates" "I"] ++ wsX60)
def wsX6_isMotif : List Cond := .code yX6_isMotif cX6_isMotif 2 (some .boolean) :: ([.fieldLink RX6 111 "PlateRoomModel" "motifs" "I"] ++ wsX60)
def wsX6_isDay : List Cond := .code yX6_isDay cX6_isDay 1 (some .boolean) :: ([])
def wsX6_isTime : List Cond := .code yX6_isTime cX6_isTime 1 (some .boolean) :: ([.constant RX6 114 (100000)])
def wsX6_plate : List Cond := .code yX6_plate cX6_plate 1 (some .int) :: ([.fieldLink RX6 101 "PlateRoomModel" "thrown" "I", .fieldLink RX6 105 "PlateRoomModel" "status" "I", .fieldLink RX6 108 "PlateRoomModel" "plates" "I", .fieldLink RX6 47 "PlateRoomModel" "left" "[I", .fieldLink RX6 50 "PlateRoomModel" "right" "[I", .fieldLink RX6 65 "PlateRoomModel" "wanted" "[I", .fieldLink RX6 68 "PlateRoomModel" "hours" "[I", .fieldLink RX6 71 "PlateRoomModel" "lost" "[I", .methodLink RX6 115 yX6_refuse, .instanceMethod yX6_refuse, .selects RX6 yX6_refuse yX6_refuse, .initialized RX6, .code yX6_refuse cX6_refuse 2 (some .int)] ++ wsX60)
def wsX6_motif : List Cond := .code yX6_motif cX6_motif 1 (some .int) :: ([.fieldLink RX6 101 "PlateRoomModel" "thrown" "I", .fieldLink RX6 105 "PlateRoomModel" "status" "I", .fieldLink RX6 111 "PlateRoomModel" "motifs" "I", .methodLink RX6 115 yX6_refuse, .instanceMethod yX6_refuse, .selects RX6 yX6_refuse yX6_refuse, .initialized RX6, .code yX6_refuse cX6_refuse 2 (some .int)] ++ wsX60)
def wsX6_adds : List Cond := .code yX6_adds cX6_adds 6 (some .int) :: ([.fieldLink RX6 119 "PlateRoomModel" "facts" "I", .fieldLink RX6 7 "PlateRoomModel" "kind" "[I", .fieldLink RX6 13 "PlateRoomModel" "first" "[I", .fieldLink RX6 16 "PlateRoomModel" "second" "[I", .fieldLink RX6 19 "PlateRoomModel" "third" "[I", .fieldLink RX6 22 "PlateRoomModel" "told" "[I", .fieldLink RX6 25 "PlateRoomModel" "crossed" "[I", .methodLink RX6 115 yX6_refuse, .instanceMethod yX6_refuse, .selects RX6 yX6_refuse yX6_refuse, .initialized RX6, .code yX6_refuse cX6_refuse 2 (some .int), .fieldLink RX6 105 "PlateRoomModel" "status" "I"] ++ wsX60)
def wsX6_shows_r1 : List Cond := [Cond.fieldLink RX6 101 "PlateRoomModel" "thrown" "I", Cond.fieldLink RX6 105 "PlateRoomModel" "status" "I", Cond.methodLink RX6 122 yX6_isPlate, Cond.instanceMethod yX6_isPlate, Cond.selects RX6 yX6_isPlate yX6_isPlate, Cond.initialized RX6, Cond.code yX6_isPlate cX6_isPlate 2 (some .boolean), Cond.fieldLink RX6 108 "PlateRoomModel" "plates" "I", Cond.methodLink RX6 126 yX6_isMotif, Cond.instanceMethod yX6_isMotif, Cond.selects RX6 yX6_isMotif yX6_isMotif, Cond.code yX6_isMotif cX6_isMotif 2 (some .boolean), Cond.fieldLink RX6 111 "PlateRoomModel" "motifs" "I", Cond.methodLink RX6 115 yX6_refuse, Cond.instanceMethod yX6_refuse, Cond.selects RX6 yX6_refuse yX6_refuse, Cond.code yX6_refuse cX6_refuse 2 (some .int), Cond.methodLink RX6 129 yX6_isDay, Cond.static yX6_isDay, Cond.code yX6_isDay cX6_isDay 1 (some .boolean), Cond.methodLink RX6 132 yX6_adds, Cond.instanceMethod yX6_adds, Cond.selects RX6 yX6_adds yX6_adds, Cond.code yX6_adds cX6_adds 6 (some .int)]
def wsX6_shows_r2 : List Cond := [Cond.fieldLink RX6 119 "PlateRoomModel" "facts" "I", Cond.fieldLink RX6 7 "PlateRoomModel" "kind" "[I", Cond.fieldLink RX6 13 "PlateRoomModel" "first" "[I", Cond.fieldLink RX6 16 "PlateRoomModel" "second" "[I", Cond.fieldLink RX6 19 "PlateRoomModel" "third" "[I", Cond.fieldLink RX6 22 "PlateRoomModel" "told" "[I", Cond.fieldLink RX6 25 "PlateRoomModel" "crossed" "[I"]
def wsX6_shows : List Cond := .code yX6_shows cX6_shows 4 (some .int) :: ((wsX6_shows_r1 ++ wsX6_shows_r2) ++ wsX60)
def wsX6_ahead_r1 : List Cond := [Cond.fieldLink RX6 101 "PlateRoomModel" "thrown" "I", Cond.fieldLink RX6 105 "PlateRoomModel" "status" "I", Cond.constant RX6 136 (-100000), Cond.constant RX6 114 (100000), Cond.methodLink RX6 122 yX6_isPlate, Cond.instanceMethod yX6_isPlate, Cond.selects RX6 yX6_isPlate yX6_isPlate, Cond.initialized RX6, Cond.code yX6_isPlate cX6_isPlate 2 (some .boolean), Cond.fieldLink RX6 108 "PlateRoomModel" "plates" "I", Cond.methodLink RX6 115 yX6_refuse, Cond.instanceMethod yX6_refuse, Cond.selects RX6 yX6_refuse yX6_refuse, Cond.code yX6_refuse cX6_refuse 2 (some .int), Cond.methodLink RX6 129 yX6_isDay, Cond.static yX6_isDay, Cond.code yX6_isDay cX6_isDay 1 (some .boolean), Cond.methodLink RX6 132 yX6_adds, Cond.instanceMethod yX6_adds, Cond.selects RX6 yX6_adds yX6_adds, Cond.code yX6_adds cX6_adds 6 (some .int), Cond.fieldLink RX6 119 "PlateRoomModel" "facts" "I", Cond.fieldLink RX6 7 "PlateRoomModel" "kind" "[I", Cond.fieldLink RX6 13 "PlateRoomModel" "first" "[I"]
def wsX6_ahead_r2 : List Cond := [Cond.fieldLink RX6 16 "PlateRoomModel" "second" "[I", Cond.fieldLink RX6 19 "PlateRoomModel" "third" "[I", Cond.fieldLink RX6 22 "PlateRoomModel" "told" "[I", Cond.fieldLink RX6 25 "PlateRoomModel" "crossed" "[I"]
def wsX6_ahead : List Cond := .code yX6_ahead cX6_ahead 5 (some .int) :: ((wsX6_ahead_r1 ++ wsX6_ahead_r2) ++ wsX60)
def wsX6_same_r1 : List Cond := [Cond.fieldLink RX6 101 "PlateRoomModel" "thrown" "I", Cond.fieldLink RX6 105 "PlateRoomModel" "status" "I", Cond.methodLink RX6 122 yX6_isPlate, Cond.instanceMethod yX6_isPlate, Cond.selects RX6 yX6_isPlate yX6_isPlate, Cond.initialized RX6, Cond.code yX6_isPlate cX6_isPlate 2 (some .boolean), Cond.fieldLink RX6 108 "PlateRoomModel" "plates" "I", Cond.methodLink RX6 115 yX6_refuse, Cond.instanceMethod yX6_refuse, Cond.selects RX6 yX6_refuse yX6_refuse, Cond.code yX6_refuse cX6_refuse 2 (some .int), Cond.methodLink RX6 129 yX6_isDay, Cond.static yX6_isDay, Cond.code yX6_isDay cX6_isDay 1 (some .boolean), Cond.methodLink RX6 132 yX6_adds, Cond.instanceMethod yX6_adds, Cond.selects RX6 yX6_adds yX6_adds, Cond.code yX6_adds cX6_adds 6 (some .int), Cond.fieldLink RX6 119 "PlateRoomModel" "facts" "I", Cond.fieldLink RX6 7 "PlateRoomModel" "kind" "[I", Cond.fieldLink RX6 13 "PlateRoomModel" "first" "[I", Cond.fieldLink RX6 16 "PlateRoomModel" "second" "[I", Cond.fieldLink RX6 19 "PlateRoomModel" "third" "[I"]
def wsX6_same_r2 : List Cond := [Cond.fieldLink RX6 22 "PlateRoomModel" "told" "[I", Cond.fieldLink RX6 25 "PlateRoomModel" "crossed" "[I"]
def wsX6_same : List Cond := .code yX6_same cX6_same 4 (some .int) :: ((wsX6_same_r1 ++ wsX6_same_r2) ++ wsX60)
def wsX6_taken_r1 : List Cond := [Cond.fieldLink RX6 101 "PlateRoomModel" "thrown" "I", Cond.fieldLink RX6 105 "PlateRoomModel" "status" "I", Cond.methodLink RX6 122 yX6_isPlate, Cond.instanceMethod yX6_isPlate, Cond.selects RX6 yX6_isPlate yX6_isPlate, Cond.initialized RX6, Cond.code yX6_isPlate cX6_isPlate 2 (some .boolean), Cond.fieldLink RX6 108 "PlateRoomModel" "plates" "I", Cond.methodLink RX6 115 yX6_refuse, Cond.instanceMethod yX6_refuse, Cond.selects RX6 yX6_refuse yX6_refuse, Cond.code yX6_refuse cX6_refuse 2 (some .int), Cond.methodLink RX6 137 yX6_isTime, Cond.static yX6_isTime, Cond.code yX6_isTime cX6_isTime 1 (some .boolean), Cond.constant RX6 114 (100000), Cond.methodLink RX6 129 yX6_isDay, Cond.static yX6_isDay, Cond.code yX6_isDay cX6_isDay 1 (some .boolean), Cond.methodLink RX6 132 yX6_adds, Cond.instanceMethod yX6_adds, Cond.selects RX6 yX6_adds yX6_adds, Cond.code yX6_adds cX6_adds 6 (some .int), Cond.fieldLink RX6 119 "PlateRoomModel" "facts" "I"]
def wsX6_taken_r2 : List Cond := [Cond.fieldLink RX6 7 "PlateRoomModel" "kind" "[I", Cond.fieldLink RX6 13 "PlateRoomModel" "first" "[I", Cond.fieldLink RX6 16 "PlateRoomModel" "second" "[I", Cond.fieldLink RX6 19 "PlateRoomModel" "third" "[I", Cond.fieldLink RX6 22 "PlateRoomModel" "told" "[I", Cond.fieldLink RX6 25 "PlateRoomModel" "crossed" "[I"]
def wsX6_taken : List Cond := .code yX6_taken cX6_taken 5 (some .int) :: ((wsX6_taken_r1 ++ wsX6_taken_r2) ++ wsX60)
def wsX6_stood_r1 : List Cond := [Cond.fieldLink RX6 101 "PlateRoomModel" "thrown" "I", Cond.fieldLink RX6 105 "PlateRoomModel" "status" "I", Cond.methodLink RX6 126 yX6_isMotif, Cond.instanceMethod yX6_isMotif, Cond.selects RX6 yX6_isMotif yX6_isMotif, Cond.initialized RX6, Cond.code yX6_isMotif cX6_isMotif 2 (some .boolean), Cond.fieldLink RX6 111 "PlateRoomModel" "motifs" "I", Cond.methodLink RX6 115 yX6_refuse, Cond.instanceMethod yX6_refuse, Cond.selects RX6 yX6_refuse yX6_refuse, Cond.code yX6_refuse cX6_refuse 2 (some .int), Cond.methodLink RX6 137 yX6_isTime, Cond.static yX6_isTime, Cond.code yX6_isTime cX6_isTime 1 (some .boolean), Cond.constant RX6 114 (100000), Cond.methodLink RX6 129 yX6_isDay, Cond.static yX6_isDay, Cond.code yX6_isDay cX6_isDay 1 (some .boolean), Cond.methodLink RX6 132 yX6_adds, Cond.instanceMethod yX6_adds, Cond.selects RX6 yX6_adds yX6_adds, Cond.code yX6_adds cX6_adds 6 (some .int), Cond.fieldLink RX6 119 "PlateRoomModel" "facts" "I"]
def wsX6_stood_r2 : List Cond := [Cond.fieldLink RX6 7 "PlateRoomModel" "kind" "[I", Cond.fieldLink RX6 13 "PlateRoomModel" "first" "[I", Cond.fieldLink RX6 16 "PlateRoomModel" "second" "[I", Cond.fieldLink RX6 19 "PlateRoomModel" "third" "[I", Cond.fieldLink RX6 22 "PlateRoomModel" "told" "[I", Cond.fieldLink RX6 25 "PlateRoomModel" "crossed" "[I"]
def wsX6_stood : List Cond := .code yX6_stood cX6_stood 6 (some .int) :: ((wsX6_stood_r1 ++ wsX6_stood_r2) ++ wsX60)
def wsX6_isFact : List Cond := .code yX6_isFact cX6_isFact 2 (some .boolean) :: ([.fieldLink RX6 119 "PlateRoomModel" "facts" "I"] ++ wsX60)
def wsX6_cross : List Cond := .code yX6_cross cX6_cross 3 (some .boolean) :: ([.fieldLink RX6 101 "PlateRoomModel" "thrown" "I", .fieldLink RX6 105 "PlateRoomModel" "status" "I", .fieldLink RX6 25 "PlateRoomModel" "crossed" "[I", .methodLink RX6 140 yX6_isFact, .instanceMethod yX6_isFact, .selects RX6 yX6_isFact yX6_isFact, .initialized RX6, .code yX6_isFact cX6_isFact 2 (some .boolean), .fieldLink RX6 119 "PlateRoomModel" "facts" "I", .methodLink RX6 143 yX6_no, .instanceMethod yX6_no, .selects RX6 yX6_no yX6_no, .code yX6_no cX6_no 2 (some .boolean), .methodLink RX6 129 yX6_isDay, .static yX6_isDay, .code yX6_isDay cX6_isDay 1 (some .boolean)] ++ wsX60)
def wsX6_fact : List Cond := .code yX6_fact cX6_fact 3 (some .int) :: ([.fieldLink RX6 101 "PlateRoomModel" "thrown" "I", .fieldLink RX6 105 "PlateRoomModel" "status" "I", .fieldLink RX6 7 "PlateRoomModel" "kind" "[I", .fieldLink RX6 22 "PlateRoomModel" "told" "[I", .fieldLink RX6 25 "PlateRoomModel" "crossed" "[I", .methodLink RX6 140 yX6_isFact, .instanceMethod yX6_isFact, .selects RX6 yX6_isFact yX6_isFact, .initialized RX6, .code yX6_isFact cX6_isFact 2 (some .boolean), .fieldLink RX6 119 "PlateRoomModel" "facts" "I", .methodLink RX6 115 yX6_refuse, .instanceMethod yX6_refuse, .selects RX6 yX6_refuse yX6_refuse, .code yX6_refuse cX6_refuse 2 (some .int)] ++ wsX60)
def wsX6_isKnown : List Cond := .code yX6_isKnown cX6_isKnown 3 (some .boolean) :: ([.fieldLink RX6 22 "PlateRoomModel" "told" "[I", .fieldLink RX6 25 "PlateRoomModel" "crossed" "[I"] ++ wsX60)
def wsX6_placeOf : List Cond := .code yX6_placeOf cX6_placeOf 1 (some .int) :: ([])
def wsX6_begins : List Cond := .code yX6_begins cX6_begins 1 (some .int) :: ([])
def wsX6_endsAt : List Cond := .code yX6_endsAt cX6_endsAt 1 (some .int) :: ([])
def wsX6_way : List Cond := .code yX6_way cX6_way 5 none :: ([.fieldLink RX6 28 "PlateRoomModel" "wayFrom" "[I", .fieldLink RX6 146 "PlateRoomModel" "ways" "I", .fieldLink RX6 31 "PlateRoomModel" "wayTo" "[I", .fieldLink RX6 34 "PlateRoomModel" "wayMore" "[J"] ++ wsX60)
def wsX6_bound : List Cond := .code yX6_bound cX6_bound 2 none :: ([.constantLong RX6 153 (-100000), .methodLink RX6 149 yX6_way, .instanceMethod yX6_way, .selects RX6 yX6_way yX6_way, .initialized RX6, .code yX6_way cX6_way 5 none, .fieldLink RX6 28 "PlateRoomModel" "wayFrom" "[I", .fieldLink RX6 146 "PlateRoomModel" "ways" "I", .fieldLink RX6 31 "PlateRoomModel" "wayTo" "[I", .fieldLink RX6 34 "PlateRoomModel" "wayMore" "[J"] ++ wsX60)
def wsX6_within : List Cond := .code yX6_within cX6_within 4 none :: ([.methodLink RX6 149 yX6_way, .instanceMethod yX6_way, .selects RX6 yX6_way yX6_way, .initialized RX6, .code yX6_way cX6_way 5 none, .fieldLink RX6 28 "PlateRoomModel" "wayFrom" "[I", .fieldLink RX6 146 "PlateRoomModel" "ways" "I", .fieldLink RX6 31 "PlateRoomModel" "wayTo" "[I", .fieldLink RX6 34 "PlateRoomModel" "wayMore" "[J"] ++ wsX60)
def wsX6_net_r1 : List Cond := [Cond.fieldLink RX6 146 "PlateRoomModel" "ways" "I", Cond.fieldLink RX6 108 "PlateRoomModel" "plates" "I", Cond.fieldLink RX6 111 "PlateRoomModel" "motifs" "I", Cond.fieldLink RX6 168 "PlateRoomModel" "bounds" "I", Cond.fieldLink RX6 119 "PlateRoomModel" "facts" "I", Cond.fieldLink RX6 13 "PlateRoomModel" "first" "[I", Cond.fieldLink RX6 16 "PlateRoomModel" "second" "[I", Cond.fieldLink RX6 7 "PlateRoomModel" "kind" "[I", Cond.fieldLink RX6 19 "PlateRoomModel" "third" "[I", Cond.methodLink RX6 155 yX6_placeOf, Cond.static yX6_placeOf, Cond.initialized RX6, Cond.code yX6_placeOf cX6_placeOf 1 (some .int), Cond.methodLink RX6 158 yX6_bound, Cond.instanceMethod yX6_bound, Cond.selects RX6 yX6_bound yX6_bound, Cond.code yX6_bound cX6_bound 2 none, Cond.constantLong RX6 153 (-100000), Cond.methodLink RX6 149 yX6_way, Cond.instanceMethod yX6_way, Cond.selects RX6 yX6_way yX6_way, Cond.code yX6_way cX6_way 5 none, Cond.fieldLink RX6 28 "PlateRoomModel" "wayFrom" "[I", Cond.fieldLink RX6 31 "PlateRoomModel" "wayTo" "[I"]
def wsX6_net_r2 : List Cond := [Cond.fieldLink RX6 34 "PlateRoomModel" "wayMore" "[J", Cond.methodLink RX6 162 yX6_begins, Cond.static yX6_begins, Cond.code yX6_begins cX6_begins 1 (some .int), Cond.methodLink RX6 165 yX6_endsAt, Cond.static yX6_endsAt, Cond.code yX6_endsAt cX6_endsAt 1 (some .int), Cond.methodLink RX6 171 yX6_isKnown, Cond.instanceMethod yX6_isKnown, Cond.selects RX6 yX6_isKnown yX6_isKnown, Cond.code yX6_isKnown cX6_isKnown 3 (some .boolean), Cond.fieldLink RX6 22 "PlateRoomModel" "told" "[I", Cond.fieldLink RX6 25 "PlateRoomModel" "crossed" "[I", Cond.methodLink RX6 175 yX6_within, Cond.instanceMethod yX6_within, Cond.selects RX6 yX6_within yX6_within, Cond.code yX6_within cX6_within 4 none]
def wsX6_net : List Cond := .code yX6_net cX6_net 6 none :: ((wsX6_net_r1 ++ wsX6_net_r2) ++ wsX60)
def wsX6_goes : List Cond := .code yX6_goes cX6_goes 5 (some .boolean) :: ([.fieldLink RX6 38 "PlateRoomModel" "far" "[J", .constantLong RX6 179 (-4000000000000), .fieldLink RX6 146 "PlateRoomModel" "ways" "I", .fieldLink RX6 28 "PlateRoomModel" "wayFrom" "[I", .fieldLink RX6 34 "PlateRoomModel" "wayMore" "[J", .fieldLink RX6 31 "PlateRoomModel" "wayTo" "[I"] ++ wsX60)
def wsX6_spanOf_r1 : List Cond := [Cond.fieldLink RX6 38 "PlateRoomModel" "far" "[J", Cond.methodLink RX6 129 yX6_isDay, Cond.static yX6_isDay, Cond.initialized RX6, Cond.code yX6_isDay cX6_isDay 1 (some .boolean), Cond.methodLink RX6 115 yX6_refuse, Cond.instanceMethod yX6_refuse, Cond.selects RX6 yX6_refuse yX6_refuse, Cond.code yX6_refuse cX6_refuse 2 (some .int), Cond.fieldLink RX6 105 "PlateRoomModel" "status" "I", Cond.methodLink RX6 181 yX6_net, Cond.instanceMethod yX6_net, Cond.selects RX6 yX6_net yX6_net, Cond.code yX6_net cX6_net 6 none, Cond.fieldLink RX6 146 "PlateRoomModel" "ways" "I", Cond.fieldLink RX6 108 "PlateRoomModel" "plates" "I", Cond.fieldLink RX6 111 "PlateRoomModel" "motifs" "I", Cond.fieldLink RX6 168 "PlateRoomModel" "bounds" "I", Cond.fieldLink RX6 119 "PlateRoomModel" "facts" "I", Cond.fieldLink RX6 13 "PlateRoomModel" "first" "[I", Cond.fieldLink RX6 16 "PlateRoomModel" "second" "[I", Cond.fieldLink RX6 7 "PlateRoomModel" "kind" "[I", Cond.fieldLink RX6 19 "PlateRoomModel" "third" "[I", Cond.methodLink RX6 155 yX6_placeOf]
def wsX6_spanOf_r2 : List Cond := [Cond.static yX6_placeOf, Cond.code yX6_placeOf cX6_placeOf 1 (some .int), Cond.methodLink RX6 158 yX6_bound, Cond.instanceMethod yX6_bound, Cond.selects RX6 yX6_bound yX6_bound, Cond.code yX6_bound cX6_bound 2 none, Cond.constantLong RX6 153 (-100000), Cond.methodLink RX6 149 yX6_way, Cond.instanceMethod yX6_way, Cond.selects RX6 yX6_way yX6_way, Cond.code yX6_way cX6_way 5 none, Cond.fieldLink RX6 28 "PlateRoomModel" "wayFrom" "[I", Cond.fieldLink RX6 31 "PlateRoomModel" "wayTo" "[I", Cond.fieldLink RX6 34 "PlateRoomModel" "wayMore" "[J", Cond.methodLink RX6 162 yX6_begins, Cond.static yX6_begins, Cond.code yX6_begins cX6_begins 1 (some .int), Cond.methodLink RX6 165 yX6_endsAt, Cond.static yX6_endsAt, Cond.code yX6_endsAt cX6_endsAt 1 (some .int), Cond.methodLink RX6 171 yX6_isKnown, Cond.instanceMethod yX6_isKnown, Cond.selects RX6 yX6_isKnown yX6_isKnown, Cond.code yX6_isKnown cX6_isKnown 3 (some .boolean)]
def wsX6_spanOf_r3 : List Cond := [Cond.fieldLink RX6 22 "PlateRoomModel" "told" "[I", Cond.fieldLink RX6 25 "PlateRoomModel" "crossed" "[I", Cond.methodLink RX6 175 yX6_within, Cond.instanceMethod yX6_within, Cond.selects RX6 yX6_within yX6_within, Cond.code yX6_within cX6_within 4 none, Cond.methodLink RX6 185 yX6_goes, Cond.instanceMethod yX6_goes, Cond.selects RX6 yX6_goes yX6_goes, Cond.code yX6_goes cX6_goes 5 (some .boolean), Cond.constantLong RX6 179 (-4000000000000)]
def wsX6_spanOf : List Cond := .code yX6_spanOf cX6_spanOf 4 (some .int) :: ((wsX6_spanOf_r1 ++ (wsX6_spanOf_r2 ++ wsX6_spanOf_r3)) ++ wsX60)
def wsX6_span_r1 : List Cond := [Cond.fieldLink RX6 101 "PlateRoomModel" "thrown" "I", Cond.fieldLink RX6 105 "PlateRoomModel" "status" "I", Cond.methodLink RX6 122 yX6_isPlate, Cond.instanceMethod yX6_isPlate, Cond.selects RX6 yX6_isPlate yX6_isPlate, Cond.initialized RX6, Cond.code yX6_isPlate cX6_isPlate 2 (some .boolean), Cond.fieldLink RX6 108 "PlateRoomModel" "plates" "I", Cond.methodLink RX6 155 yX6_placeOf, Cond.static yX6_placeOf, Cond.code yX6_placeOf cX6_placeOf 1 (some .int), Cond.methodLink RX6 188 yX6_spanOf, Cond.instanceMethod yX6_spanOf, Cond.selects RX6 yX6_spanOf yX6_spanOf, Cond.code yX6_spanOf cX6_spanOf 4 (some .int), Cond.fieldLink RX6 38 "PlateRoomModel" "far" "[J", Cond.methodLink RX6 129 yX6_isDay, Cond.static yX6_isDay, Cond.code yX6_isDay cX6_isDay 1 (some .boolean), Cond.methodLink RX6 115 yX6_refuse, Cond.instanceMethod yX6_refuse, Cond.selects RX6 yX6_refuse yX6_refuse, Cond.code yX6_refuse cX6_refuse 2 (some .int), Cond.methodLink RX6 181 yX6_net]
def wsX6_span_r2 : List Cond := [Cond.instanceMethod yX6_net, Cond.selects RX6 yX6_net yX6_net, Cond.code yX6_net cX6_net 6 none, Cond.fieldLink RX6 146 "PlateRoomModel" "ways" "I", Cond.fieldLink RX6 111 "PlateRoomModel" "motifs" "I", Cond.fieldLink RX6 168 "PlateRoomModel" "bounds" "I", Cond.fieldLink RX6 119 "PlateRoomModel" "facts" "I", Cond.fieldLink RX6 13 "PlateRoomModel" "first" "[I", Cond.fieldLink RX6 16 "PlateRoomModel" "second" "[I", Cond.fieldLink RX6 7 "PlateRoomModel" "kind" "[I", Cond.fieldLink RX6 19 "PlateRoomModel" "third" "[I", Cond.methodLink RX6 158 yX6_bound, Cond.instanceMethod yX6_bound, Cond.selects RX6 yX6_bound yX6_bound, Cond.code yX6_bound cX6_bound 2 none, Cond.constantLong RX6 153 (-100000), Cond.methodLink RX6 149 yX6_way, Cond.instanceMethod yX6_way, Cond.selects RX6 yX6_way yX6_way, Cond.code yX6_way cX6_way 5 none, Cond.fieldLink RX6 28 "PlateRoomModel" "wayFrom" "[I", Cond.fieldLink RX6 31 "PlateRoomModel" "wayTo" "[I", Cond.fieldLink RX6 34 "PlateRoomModel" "wayMore" "[J", Cond.methodLink RX6 162 yX6_begins]
def wsX6_span_r3 : List Cond := [Cond.static yX6_begins, Cond.code yX6_begins cX6_begins 1 (some .int), Cond.methodLink RX6 165 yX6_endsAt, Cond.static yX6_endsAt, Cond.code yX6_endsAt cX6_endsAt 1 (some .int), Cond.methodLink RX6 171 yX6_isKnown, Cond.instanceMethod yX6_isKnown, Cond.selects RX6 yX6_isKnown yX6_isKnown, Cond.code yX6_isKnown cX6_isKnown 3 (some .boolean), Cond.fieldLink RX6 22 "PlateRoomModel" "told" "[I", Cond.fieldLink RX6 25 "PlateRoomModel" "crossed" "[I", Cond.methodLink RX6 175 yX6_within, Cond.instanceMethod yX6_within, Cond.selects RX6 yX6_within yX6_within, Cond.code yX6_within cX6_within 4 none, Cond.methodLink RX6 185 yX6_goes, Cond.instanceMethod yX6_goes, Cond.selects RX6 yX6_goes yX6_goes, Cond.code yX6_goes cX6_goes 5 (some .boolean), Cond.constantLong RX6 179 (-4000000000000)]
def wsX6_span : List Cond := .code yX6_span cX6_span 4 (some .int) :: ((wsX6_span_r1 ++ (wsX6_span_r2 ++ wsX6_span_r3)) ++ wsX60)
def wsX6_times_r1 : List Cond := [Cond.fieldLink RX6 101 "PlateRoomModel" "thrown" "I", Cond.fieldLink RX6 105 "PlateRoomModel" "status" "I", Cond.methodLink RX6 126 yX6_isMotif, Cond.instanceMethod yX6_isMotif, Cond.selects RX6 yX6_isMotif yX6_isMotif, Cond.initialized RX6, Cond.code yX6_isMotif cX6_isMotif 2 (some .boolean), Cond.fieldLink RX6 111 "PlateRoomModel" "motifs" "I", Cond.methodLink RX6 165 yX6_endsAt, Cond.static yX6_endsAt, Cond.code yX6_endsAt cX6_endsAt 1 (some .int), Cond.methodLink RX6 162 yX6_begins, Cond.static yX6_begins, Cond.code yX6_begins cX6_begins 1 (some .int), Cond.methodLink RX6 188 yX6_spanOf, Cond.instanceMethod yX6_spanOf, Cond.selects RX6 yX6_spanOf yX6_spanOf, Cond.code yX6_spanOf cX6_spanOf 4 (some .int), Cond.fieldLink RX6 38 "PlateRoomModel" "far" "[J", Cond.methodLink RX6 129 yX6_isDay, Cond.static yX6_isDay, Cond.code yX6_isDay cX6_isDay 1 (some .boolean), Cond.methodLink RX6 115 yX6_refuse, Cond.instanceMethod yX6_refuse]
def wsX6_times_r2 : List Cond := [Cond.selects RX6 yX6_refuse yX6_refuse, Cond.code yX6_refuse cX6_refuse 2 (some .int), Cond.methodLink RX6 181 yX6_net, Cond.instanceMethod yX6_net, Cond.selects RX6 yX6_net yX6_net, Cond.code yX6_net cX6_net 6 none, Cond.fieldLink RX6 146 "PlateRoomModel" "ways" "I", Cond.fieldLink RX6 108 "PlateRoomModel" "plates" "I", Cond.fieldLink RX6 168 "PlateRoomModel" "bounds" "I", Cond.fieldLink RX6 119 "PlateRoomModel" "facts" "I", Cond.fieldLink RX6 13 "PlateRoomModel" "first" "[I", Cond.fieldLink RX6 16 "PlateRoomModel" "second" "[I", Cond.fieldLink RX6 7 "PlateRoomModel" "kind" "[I", Cond.fieldLink RX6 19 "PlateRoomModel" "third" "[I", Cond.methodLink RX6 155 yX6_placeOf, Cond.static yX6_placeOf, Cond.code yX6_placeOf cX6_placeOf 1 (some .int), Cond.methodLink RX6 158 yX6_bound, Cond.instanceMethod yX6_bound, Cond.selects RX6 yX6_bound yX6_bound, Cond.code yX6_bound cX6_bound 2 none, Cond.constantLong RX6 153 (-100000), Cond.methodLink RX6 149 yX6_way, Cond.instanceMethod yX6_way]
def wsX6_times_r3 : List Cond := [Cond.selects RX6 yX6_way yX6_way, Cond.code yX6_way cX6_way 5 none, Cond.fieldLink RX6 28 "PlateRoomModel" "wayFrom" "[I", Cond.fieldLink RX6 31 "PlateRoomModel" "wayTo" "[I", Cond.fieldLink RX6 34 "PlateRoomModel" "wayMore" "[J", Cond.methodLink RX6 171 yX6_isKnown, Cond.instanceMethod yX6_isKnown, Cond.selects RX6 yX6_isKnown yX6_isKnown, Cond.code yX6_isKnown cX6_isKnown 3 (some .boolean), Cond.fieldLink RX6 22 "PlateRoomModel" "told" "[I", Cond.fieldLink RX6 25 "PlateRoomModel" "crossed" "[I", Cond.methodLink RX6 175 yX6_within, Cond.instanceMethod yX6_within, Cond.selects RX6 yX6_within yX6_within, Cond.code yX6_within cX6_within 4 none, Cond.methodLink RX6 185 yX6_goes, Cond.instanceMethod yX6_goes, Cond.selects RX6 yX6_goes yX6_goes, Cond.code yX6_goes cX6_goes 5 (some .boolean), Cond.constantLong RX6 179 (-4000000000000)]
def wsX6_times : List Cond := .code yX6_times cX6_times 5 (some .int) :: ((wsX6_times_r1 ++ (wsX6_times_r2 ++ wsX6_times_r3)) ++ wsX60)
def wsX6_longer : List Cond := .code yX6_longer cX6_longer 6 none :: ([.fieldLink RX6 38 "PlateRoomModel" "far" "[J", .constantLong RX6 179 (-4000000000000), .fieldLink RX6 168 "PlateRoomModel" "bounds" "I", .fieldLink RX6 146 "PlateRoomModel" "ways" "I", .fieldLink RX6 44 "PlateRoomModel" "now" "[J", .fieldLink RX6 28 "PlateRoomModel" "wayFrom" "[I", .fieldLink RX6 34 "PlateRoomModel" "wayMore" "[J", .fieldLink RX6 41 "PlateRoomModel" "more" "[J", .fieldLink RX6 31 "PlateRoomModel" "wayTo" "[I", .methodLink RX6 195 Lib.MathLoose.max_long.x, .static Lib.MathLoose.max_long.x, .initialized "java/lang/Math", .code Lib.MathLoose.max_long.x Lib.MathLoose.max_long.code 4 (some .long)] ++ wsX60)
def wsX6_quarrel_r1 : List Cond := [Cond.fieldLink RX6 101 "PlateRoomModel" "thrown" "I", Cond.fieldLink RX6 105 "PlateRoomModel" "status" "I", Cond.fieldLink RX6 146 "PlateRoomModel" "ways" "I", Cond.fieldLink RX6 168 "PlateRoomModel" "bounds" "I", Cond.fieldLink RX6 41 "PlateRoomModel" "more" "[J", Cond.fieldLink RX6 38 "PlateRoomModel" "far" "[J", Cond.fieldLink RX6 44 "PlateRoomModel" "now" "[J", Cond.methodLink RX6 129 yX6_isDay, Cond.static yX6_isDay, Cond.initialized RX6, Cond.code yX6_isDay cX6_isDay 1 (some .boolean), Cond.methodLink RX6 115 yX6_refuse, Cond.instanceMethod yX6_refuse, Cond.selects RX6 yX6_refuse yX6_refuse, Cond.code yX6_refuse cX6_refuse 2 (some .int), Cond.methodLink RX6 181 yX6_net, Cond.instanceMethod yX6_net, Cond.selects RX6 yX6_net yX6_net, Cond.code yX6_net cX6_net 6 none, Cond.fieldLink RX6 108 "PlateRoomModel" "plates" "I", Cond.fieldLink RX6 111 "PlateRoomModel" "motifs" "I", Cond.fieldLink RX6 119 "PlateRoomModel" "facts" "I", Cond.fieldLink RX6 13 "PlateRoomModel" "first" "[I", Cond.fieldLink RX6 16 "PlateRoomModel" "second" "[I"]
def wsX6_quarrel_r2 : List Cond := [Cond.fieldLink RX6 7 "PlateRoomModel" "kind" "[I", Cond.fieldLink RX6 19 "PlateRoomModel" "third" "[I", Cond.methodLink RX6 155 yX6_placeOf, Cond.static yX6_placeOf, Cond.code yX6_placeOf cX6_placeOf 1 (some .int), Cond.methodLink RX6 158 yX6_bound, Cond.instanceMethod yX6_bound, Cond.selects RX6 yX6_bound yX6_bound, Cond.code yX6_bound cX6_bound 2 none, Cond.constantLong RX6 153 (-100000), Cond.methodLink RX6 149 yX6_way, Cond.instanceMethod yX6_way, Cond.selects RX6 yX6_way yX6_way, Cond.code yX6_way cX6_way 5 none, Cond.fieldLink RX6 28 "PlateRoomModel" "wayFrom" "[I", Cond.fieldLink RX6 31 "PlateRoomModel" "wayTo" "[I", Cond.fieldLink RX6 34 "PlateRoomModel" "wayMore" "[J", Cond.methodLink RX6 162 yX6_begins, Cond.static yX6_begins, Cond.code yX6_begins cX6_begins 1 (some .int), Cond.methodLink RX6 165 yX6_endsAt, Cond.static yX6_endsAt, Cond.code yX6_endsAt cX6_endsAt 1 (some .int), Cond.methodLink RX6 171 yX6_isKnown]
def wsX6_quarrel_r3 : List Cond := [Cond.instanceMethod yX6_isKnown, Cond.selects RX6 yX6_isKnown yX6_isKnown, Cond.code yX6_isKnown cX6_isKnown 3 (some .boolean), Cond.fieldLink RX6 22 "PlateRoomModel" "told" "[I", Cond.fieldLink RX6 25 "PlateRoomModel" "crossed" "[I", Cond.methodLink RX6 175 yX6_within, Cond.instanceMethod yX6_within, Cond.selects RX6 yX6_within yX6_within, Cond.code yX6_within cX6_within 4 none, Cond.methodLink RX6 185 yX6_goes, Cond.instanceMethod yX6_goes, Cond.selects RX6 yX6_goes yX6_goes, Cond.code yX6_goes cX6_goes 5 (some .boolean), Cond.constantLong RX6 179 (-4000000000000), Cond.methodLink RX6 192 yX6_longer, Cond.instanceMethod yX6_longer, Cond.selects RX6 yX6_longer yX6_longer, Cond.code yX6_longer cX6_longer 6 none, Cond.methodLink RX6 195 Lib.MathLoose.max_long.x, Cond.static Lib.MathLoose.max_long.x, Cond.initialized "java/lang/Math", Cond.code Lib.MathLoose.max_long.x Lib.MathLoose.max_long.code 4 (some .long)]
def wsX6_quarrel : List Cond := .code yX6_quarrel cX6_quarrel 6 (some .int) :: ((wsX6_quarrel_r1 ++ (wsX6_quarrel_r2 ++ wsX6_quarrel_r3)) ++ wsX60)
def wsX6_frees_r1 : List Cond := [Cond.fieldLink RX6 101 "PlateRoomModel" "thrown" "I", Cond.fieldLink RX6 105 "PlateRoomModel" "status" "I", Cond.methodLink RX6 140 yX6_isFact, Cond.instanceMethod yX6_isFact, Cond.selects RX6 yX6_isFact yX6_isFact, Cond.initialized RX6, Cond.code yX6_isFact cX6_isFact 2 (some .boolean), Cond.fieldLink RX6 119 "PlateRoomModel" "facts" "I", Cond.methodLink RX6 115 yX6_refuse, Cond.instanceMethod yX6_refuse, Cond.selects RX6 yX6_refuse yX6_refuse, Cond.code yX6_refuse cX6_refuse 2 (some .int), Cond.methodLink RX6 129 yX6_isDay, Cond.static yX6_isDay, Cond.code yX6_isDay cX6_isDay 1 (some .boolean), Cond.methodLink RX6 181 yX6_net, Cond.instanceMethod yX6_net, Cond.selects RX6 yX6_net yX6_net, Cond.code yX6_net cX6_net 6 none, Cond.fieldLink RX6 146 "PlateRoomModel" "ways" "I", Cond.fieldLink RX6 108 "PlateRoomModel" "plates" "I", Cond.fieldLink RX6 111 "PlateRoomModel" "motifs" "I", Cond.fieldLink RX6 168 "PlateRoomModel" "bounds" "I", Cond.fieldLink RX6 13 "PlateRoomModel" "first" "[I"]
def wsX6_frees_r2 : List Cond := [Cond.fieldLink RX6 16 "PlateRoomModel" "second" "[I", Cond.fieldLink RX6 7 "PlateRoomModel" "kind" "[I", Cond.fieldLink RX6 19 "PlateRoomModel" "third" "[I", Cond.methodLink RX6 155 yX6_placeOf, Cond.static yX6_placeOf, Cond.code yX6_placeOf cX6_placeOf 1 (some .int), Cond.methodLink RX6 158 yX6_bound, Cond.instanceMethod yX6_bound, Cond.selects RX6 yX6_bound yX6_bound, Cond.code yX6_bound cX6_bound 2 none, Cond.constantLong RX6 153 (-100000), Cond.methodLink RX6 149 yX6_way, Cond.instanceMethod yX6_way, Cond.selects RX6 yX6_way yX6_way, Cond.code yX6_way cX6_way 5 none, Cond.fieldLink RX6 28 "PlateRoomModel" "wayFrom" "[I", Cond.fieldLink RX6 31 "PlateRoomModel" "wayTo" "[I", Cond.fieldLink RX6 34 "PlateRoomModel" "wayMore" "[J", Cond.methodLink RX6 162 yX6_begins, Cond.static yX6_begins, Cond.code yX6_begins cX6_begins 1 (some .int), Cond.methodLink RX6 165 yX6_endsAt, Cond.static yX6_endsAt, Cond.code yX6_endsAt cX6_endsAt 1 (some .int)]
def wsX6_frees_r3 : List Cond := [Cond.methodLink RX6 171 yX6_isKnown, Cond.instanceMethod yX6_isKnown, Cond.selects RX6 yX6_isKnown yX6_isKnown, Cond.code yX6_isKnown cX6_isKnown 3 (some .boolean), Cond.fieldLink RX6 22 "PlateRoomModel" "told" "[I", Cond.fieldLink RX6 25 "PlateRoomModel" "crossed" "[I", Cond.methodLink RX6 175 yX6_within, Cond.instanceMethod yX6_within, Cond.selects RX6 yX6_within yX6_within, Cond.code yX6_within cX6_within 4 none, Cond.methodLink RX6 185 yX6_goes, Cond.instanceMethod yX6_goes, Cond.selects RX6 yX6_goes yX6_goes, Cond.code yX6_goes cX6_goes 5 (some .boolean), Cond.fieldLink RX6 38 "PlateRoomModel" "far" "[J", Cond.constantLong RX6 179 (-4000000000000)]
def wsX6_frees : List Cond := .code yX6_frees cX6_frees 3 (some .int) :: ((wsX6_frees_r1 ++ (wsX6_frees_r2 ++ wsX6_frees_r3)) ++ wsX60)
def wsX6_order_r1 : List Cond := [Cond.fieldLink RX6 101 "PlateRoomModel" "thrown" "I", Cond.fieldLink RX6 105 "PlateRoomModel" "status" "I", Cond.fieldLink RX6 38 "PlateRoomModel" "far" "[J", Cond.methodLink RX6 122 yX6_isPlate, Cond.instanceMethod yX6_isPlate, Cond.selects RX6 yX6_isPlate yX6_isPlate, Cond.initialized RX6, Cond.code yX6_isPlate cX6_isPlate 2 (some .boolean), Cond.fieldLink RX6 108 "PlateRoomModel" "plates" "I", Cond.methodLink RX6 115 yX6_refuse, Cond.instanceMethod yX6_refuse, Cond.selects RX6 yX6_refuse yX6_refuse, Cond.code yX6_refuse cX6_refuse 2 (some .int), Cond.methodLink RX6 129 yX6_isDay, Cond.static yX6_isDay, Cond.code yX6_isDay cX6_isDay 1 (some .boolean), Cond.methodLink RX6 181 yX6_net, Cond.instanceMethod yX6_net, Cond.selects RX6 yX6_net yX6_net, Cond.code yX6_net cX6_net 6 none, Cond.fieldLink RX6 146 "PlateRoomModel" "ways" "I", Cond.fieldLink RX6 111 "PlateRoomModel" "motifs" "I", Cond.fieldLink RX6 168 "PlateRoomModel" "bounds" "I", Cond.fieldLink RX6 119 "PlateRoomModel" "facts" "I"]
def wsX6_order_r2 : List Cond := [Cond.fieldLink RX6 13 "PlateRoomModel" "first" "[I", Cond.fieldLink RX6 16 "PlateRoomModel" "second" "[I", Cond.fieldLink RX6 7 "PlateRoomModel" "kind" "[I", Cond.fieldLink RX6 19 "PlateRoomModel" "third" "[I", Cond.methodLink RX6 155 yX6_placeOf, Cond.static yX6_placeOf, Cond.code yX6_placeOf cX6_placeOf 1 (some .int), Cond.methodLink RX6 158 yX6_bound, Cond.instanceMethod yX6_bound, Cond.selects RX6 yX6_bound yX6_bound, Cond.code yX6_bound cX6_bound 2 none, Cond.constantLong RX6 153 (-100000), Cond.methodLink RX6 149 yX6_way, Cond.instanceMethod yX6_way, Cond.selects RX6 yX6_way yX6_way, Cond.code yX6_way cX6_way 5 none, Cond.fieldLink RX6 28 "PlateRoomModel" "wayFrom" "[I", Cond.fieldLink RX6 31 "PlateRoomModel" "wayTo" "[I", Cond.fieldLink RX6 34 "PlateRoomModel" "wayMore" "[J", Cond.methodLink RX6 162 yX6_begins, Cond.static yX6_begins, Cond.code yX6_begins cX6_begins 1 (some .int), Cond.methodLink RX6 165 yX6_endsAt, Cond.static yX6_endsAt]
def wsX6_order_r3 : List Cond := [Cond.code yX6_endsAt cX6_endsAt 1 (some .int), Cond.methodLink RX6 171 yX6_isKnown, Cond.instanceMethod yX6_isKnown, Cond.selects RX6 yX6_isKnown yX6_isKnown, Cond.code yX6_isKnown cX6_isKnown 3 (some .boolean), Cond.fieldLink RX6 22 "PlateRoomModel" "told" "[I", Cond.fieldLink RX6 25 "PlateRoomModel" "crossed" "[I", Cond.methodLink RX6 175 yX6_within, Cond.instanceMethod yX6_within, Cond.selects RX6 yX6_within yX6_within, Cond.code yX6_within cX6_within 4 none, Cond.methodLink RX6 185 yX6_goes, Cond.instanceMethod yX6_goes, Cond.selects RX6 yX6_goes yX6_goes, Cond.code yX6_goes cX6_goes 5 (some .boolean), Cond.constantLong RX6 179 (-4000000000000)]
def wsX6_order : List Cond := .code yX6_order cX6_order 4 (some .int) :: ((wsX6_order_r1 ++ (wsX6_order_r2 ++ wsX6_order_r3)) ++ wsX60)
def wsX6_edges : List Cond := .code yX6_edges cX6_edges 4 (some .boolean) :: ([.fieldLink RX6 101 "PlateRoomModel" "thrown" "I", .fieldLink RX6 105 "PlateRoomModel" "status" "I", .fieldLink RX6 47 "PlateRoomModel" "left" "[I", .fieldLink RX6 50 "PlateRoomModel" "right" "[I", .methodLink RX6 122 yX6_isPlate, .instanceMethod yX6_isPlate, .selects RX6 yX6_isPlate yX6_isPlate, .initialized RX6, .code yX6_isPlate cX6_isPlate 2 (some .boolean), .fieldLink RX6 108 "PlateRoomModel" "plates" "I", .methodLink RX6 143 yX6_no, .instanceMethod yX6_no, .selects RX6 yX6_no yX6_no, .code yX6_no cX6_no 2 (some .boolean)] ++ wsX60)
def wsX6_leftOf : List Cond := .code yX6_leftOf cX6_leftOf 2 (some .int) :: ([.fieldLink RX6 47 "PlateRoomModel" "left" "[I"] ++ wsX60)
def wsX6_rightOf : List Cond := .code yX6_rightOf cX6_rightOf 2 (some .int) :: ([.fieldLink RX6 50 "PlateRoomModel" "right" "[I"] ++ wsX60)
def wsX6_isSet : List Cond := .code yX6_isSet cX6_isSet 2 (some .boolean) :: ([.fieldLink RX6 108 "PlateRoomModel" "plates" "I"] ++ wsX60)
def wsX6_marks : List Cond := .code yX6_marks cX6_marks 5 none :: ([.fieldLink RX6 108 "PlateRoomModel" "plates" "I", .fieldLink RX6 62 "PlateRoomModel" "mark" "[I", .methodLink RX6 207 Lib.Math.min.name, .static Lib.Math.min.name, .initialized "java/lang/Math", .code Lib.Math.min.name Lib.Math.min.code 2 (some .int), .methodLink RX6 201 yX6_leftOf, .instanceMethod yX6_leftOf, .selects RX6 yX6_leftOf yX6_leftOf, .initialized RX6, .code yX6_leftOf cX6_leftOf 2 (some .int), .fieldLink RX6 47 "PlateRoomModel" "left" "[I", .methodLink RX6 204 yX6_rightOf, .instanceMethod yX6_rightOf, .selects RX6 yX6_rightOf yX6_rightOf, .code yX6_rightOf cX6_rightOf 2 (some .int), .fieldLink RX6 50 "PlateRoomModel" "right" "[I"] ++ wsX60)
def wsX6_counts : List Cond := .code yX6_counts cX6_counts 3 none :: ([.fieldLink RX6 59 "PlateRoomModel" "excess" "[I", .fieldLink RX6 108 "PlateRoomModel" "plates" "I", .methodLink RX6 201 yX6_leftOf, .instanceMethod yX6_leftOf, .selects RX6 yX6_leftOf yX6_leftOf, .initialized RX6, .code yX6_leftOf cX6_leftOf 2 (some .int), .fieldLink RX6 47 "PlateRoomModel" "left" "[I", .methodLink RX6 204 yX6_rightOf, .instanceMethod yX6_rightOf, .selects RX6 yX6_rightOf yX6_rightOf, .code yX6_rightOf cX6_rightOf 2 (some .int), .fieldLink RX6 50 "PlateRoomModel" "right" "[I"] ++ wsX60)
def wsX6_hasRow_r1 : List Cond := [Cond.fieldLink RX6 108 "PlateRoomModel" "plates" "I", Cond.fieldLink RX6 62 "PlateRoomModel" "mark" "[I", Cond.fieldLink RX6 59 "PlateRoomModel" "excess" "[I", Cond.methodLink RX6 217 Lib.Math.max.name, Cond.static Lib.Math.max.name, Cond.initialized "java/lang/Math", Cond.code Lib.Math.max.name Lib.Math.max.code 2 (some .int), Cond.methodLink RX6 211 yX6_marks, Cond.instanceMethod yX6_marks, Cond.selects RX6 yX6_marks yX6_marks, Cond.initialized RX6, Cond.code yX6_marks cX6_marks 5 none, Cond.methodLink RX6 207 Lib.Math.min.name, Cond.static Lib.Math.min.name, Cond.code Lib.Math.min.name Lib.Math.min.code 2 (some .int), Cond.methodLink RX6 201 yX6_leftOf, Cond.instanceMethod yX6_leftOf, Cond.selects RX6 yX6_leftOf yX6_leftOf, Cond.code yX6_leftOf cX6_leftOf 2 (some .int), Cond.fieldLink RX6 47 "PlateRoomModel" "left" "[I", Cond.methodLink RX6 204 yX6_rightOf, Cond.instanceMethod yX6_rightOf, Cond.selects RX6 yX6_rightOf yX6_rightOf, Cond.code yX6_rightOf cX6_rightOf 2 (some .int)]
def wsX6_hasRow_r2 : List Cond := [Cond.fieldLink RX6 50 "PlateRoomModel" "right" "[I", Cond.methodLink RX6 214 yX6_counts, Cond.instanceMethod yX6_counts, Cond.selects RX6 yX6_counts yX6_counts, Cond.code yX6_counts cX6_counts 3 none]
def wsX6_hasRow : List Cond := .code yX6_hasRow cX6_hasRow 8 (some .boolean) :: ((wsX6_hasRow_r1 ++ wsX6_hasRow_r2) ++ wsX60)
def wsX6_isNext_r1 : List Cond := [Cond.methodLink RX6 201 yX6_leftOf, Cond.instanceMethod yX6_leftOf, Cond.selects RX6 yX6_leftOf yX6_leftOf, Cond.initialized RX6, Cond.code yX6_leftOf cX6_leftOf 2 (some .int), Cond.fieldLink RX6 47 "PlateRoomModel" "left" "[I", Cond.methodLink RX6 204 yX6_rightOf, Cond.instanceMethod yX6_rightOf, Cond.selects RX6 yX6_rightOf yX6_rightOf, Cond.code yX6_rightOf cX6_rightOf 2 (some .int), Cond.fieldLink RX6 50 "PlateRoomModel" "right" "[I", Cond.methodLink RX6 219 yX6_hasRow, Cond.instanceMethod yX6_hasRow, Cond.selects RX6 yX6_hasRow yX6_hasRow, Cond.code yX6_hasRow cX6_hasRow 8 (some .boolean), Cond.fieldLink RX6 108 "PlateRoomModel" "plates" "I", Cond.fieldLink RX6 62 "PlateRoomModel" "mark" "[I", Cond.fieldLink RX6 59 "PlateRoomModel" "excess" "[I", Cond.methodLink RX6 217 Lib.Math.max.name, Cond.static Lib.Math.max.name, Cond.initialized "java/lang/Math", Cond.code Lib.Math.max.name Lib.Math.max.code 2 (some .int), Cond.methodLink RX6 211 yX6_marks, Cond.instanceMethod yX6_marks]
def wsX6_isNext_r2 : List Cond := [Cond.selects RX6 yX6_marks yX6_marks, Cond.code yX6_marks cX6_marks 5 none, Cond.methodLink RX6 207 Lib.Math.min.name, Cond.static Lib.Math.min.name, Cond.code Lib.Math.min.name Lib.Math.min.code 2 (some .int), Cond.methodLink RX6 214 yX6_counts, Cond.instanceMethod yX6_counts, Cond.selects RX6 yX6_counts yX6_counts, Cond.code yX6_counts cX6_counts 3 none]
def wsX6_isNext : List Cond := .code yX6_isNext cX6_isNext 4 (some .boolean) :: ((wsX6_isNext_r1 ++ wsX6_isNext_r2) ++ wsX60)
def wsX6_finds_r1 : List Cond := [Cond.fieldLink RX6 222 "PlateRoomModel" "rowMany" "I", Cond.fieldLink RX6 56 "PlateRoomModel" "row" "[I", Cond.methodLink RX6 219 yX6_hasRow, Cond.instanceMethod yX6_hasRow, Cond.selects RX6 yX6_hasRow yX6_hasRow, Cond.initialized RX6, Cond.code yX6_hasRow cX6_hasRow 8 (some .boolean), Cond.fieldLink RX6 108 "PlateRoomModel" "plates" "I", Cond.fieldLink RX6 62 "PlateRoomModel" "mark" "[I", Cond.fieldLink RX6 59 "PlateRoomModel" "excess" "[I", Cond.methodLink RX6 217 Lib.Math.max.name, Cond.static Lib.Math.max.name, Cond.initialized "java/lang/Math", Cond.code Lib.Math.max.name Lib.Math.max.code 2 (some .int), Cond.methodLink RX6 211 yX6_marks, Cond.instanceMethod yX6_marks, Cond.selects RX6 yX6_marks yX6_marks, Cond.code yX6_marks cX6_marks 5 none, Cond.methodLink RX6 207 Lib.Math.min.name, Cond.static Lib.Math.min.name, Cond.code Lib.Math.min.name Lib.Math.min.code 2 (some .int), Cond.methodLink RX6 201 yX6_leftOf, Cond.instanceMethod yX6_leftOf, Cond.selects RX6 yX6_leftOf yX6_leftOf]
def wsX6_finds_r2 : List Cond := [Cond.code yX6_leftOf cX6_leftOf 2 (some .int), Cond.fieldLink RX6 47 "PlateRoomModel" "left" "[I", Cond.methodLink RX6 204 yX6_rightOf, Cond.instanceMethod yX6_rightOf, Cond.selects RX6 yX6_rightOf yX6_rightOf, Cond.code yX6_rightOf cX6_rightOf 2 (some .int), Cond.fieldLink RX6 50 "PlateRoomModel" "right" "[I", Cond.methodLink RX6 214 yX6_counts, Cond.instanceMethod yX6_counts, Cond.selects RX6 yX6_counts yX6_counts, Cond.code yX6_counts cX6_counts 3 none, Cond.methodLink RX6 225 yX6_isNext, Cond.instanceMethod yX6_isNext, Cond.selects RX6 yX6_isNext yX6_isNext, Cond.code yX6_isNext cX6_isNext 4 (some .boolean)]
def wsX6_finds : List Cond := .code yX6_finds cX6_finds 5 (some .boolean) :: ((wsX6_finds_r1 ++ wsX6_finds_r2) ++ wsX60)
def wsX6_row_r1 : List Cond := [Cond.fieldLink RX6 101 "PlateRoomModel" "thrown" "I", Cond.fieldLink RX6 105 "PlateRoomModel" "status" "I", Cond.fieldLink RX6 222 "PlateRoomModel" "rowMany" "I", Cond.fieldLink RX6 235 "PlateRoomModel" "outs" "I", Cond.fieldLink RX6 53 "PlateRoomModel" "out" "[I", Cond.fieldLink RX6 56 "PlateRoomModel" "row" "[I", Cond.methodLink RX6 229 yX6_isSet, Cond.instanceMethod yX6_isSet, Cond.selects RX6 yX6_isSet yX6_isSet, Cond.initialized RX6, Cond.code yX6_isSet cX6_isSet 2 (some .boolean), Cond.fieldLink RX6 108 "PlateRoomModel" "plates" "I", Cond.methodLink RX6 115 yX6_refuse, Cond.instanceMethod yX6_refuse, Cond.selects RX6 yX6_refuse yX6_refuse, Cond.code yX6_refuse cX6_refuse 2 (some .int), Cond.methodLink RX6 232 yX6_finds, Cond.instanceMethod yX6_finds, Cond.selects RX6 yX6_finds yX6_finds, Cond.code yX6_finds cX6_finds 5 (some .boolean), Cond.methodLink RX6 219 yX6_hasRow, Cond.instanceMethod yX6_hasRow, Cond.selects RX6 yX6_hasRow yX6_hasRow, Cond.code yX6_hasRow cX6_hasRow 8 (some .boolean)]
def wsX6_row_r2 : List Cond := [Cond.fieldLink RX6 62 "PlateRoomModel" "mark" "[I", Cond.fieldLink RX6 59 "PlateRoomModel" "excess" "[I", Cond.methodLink RX6 217 Lib.Math.max.name, Cond.static Lib.Math.max.name, Cond.initialized "java/lang/Math", Cond.code Lib.Math.max.name Lib.Math.max.code 2 (some .int), Cond.methodLink RX6 211 yX6_marks, Cond.instanceMethod yX6_marks, Cond.selects RX6 yX6_marks yX6_marks, Cond.code yX6_marks cX6_marks 5 none, Cond.methodLink RX6 207 Lib.Math.min.name, Cond.static Lib.Math.min.name, Cond.code Lib.Math.min.name Lib.Math.min.code 2 (some .int), Cond.methodLink RX6 201 yX6_leftOf, Cond.instanceMethod yX6_leftOf, Cond.selects RX6 yX6_leftOf yX6_leftOf, Cond.code yX6_leftOf cX6_leftOf 2 (some .int), Cond.fieldLink RX6 47 "PlateRoomModel" "left" "[I", Cond.methodLink RX6 204 yX6_rightOf, Cond.instanceMethod yX6_rightOf, Cond.selects RX6 yX6_rightOf yX6_rightOf, Cond.code yX6_rightOf cX6_rightOf 2 (some .int), Cond.fieldLink RX6 50 "PlateRoomModel" "right" "[I", Cond.methodLink RX6 214 yX6_counts]
def wsX6_row_r3 : List Cond := [Cond.instanceMethod yX6_counts, Cond.selects RX6 yX6_counts yX6_counts, Cond.code yX6_counts cX6_counts 3 none, Cond.methodLink RX6 225 yX6_isNext, Cond.instanceMethod yX6_isNext, Cond.selects RX6 yX6_isNext yX6_isNext, Cond.code yX6_isNext cX6_isNext 4 (some .boolean)]
def wsX6_row : List Cond := .code yX6_row cX6_row 3 (some .int) :: ((wsX6_row_r1 ++ (wsX6_row_r2 ++ wsX6_row_r3)) ++ wsX60)
def wsX6_ring_r1 : List Cond := [Cond.fieldLink RX6 101 "PlateRoomModel" "thrown" "I", Cond.fieldLink RX6 105 "PlateRoomModel" "status" "I", Cond.fieldLink RX6 56 "PlateRoomModel" "row" "[I", Cond.fieldLink RX6 222 "PlateRoomModel" "rowMany" "I", Cond.methodLink RX6 229 yX6_isSet, Cond.instanceMethod yX6_isSet, Cond.selects RX6 yX6_isSet yX6_isSet, Cond.initialized RX6, Cond.code yX6_isSet cX6_isSet 2 (some .boolean), Cond.fieldLink RX6 108 "PlateRoomModel" "plates" "I", Cond.methodLink RX6 115 yX6_refuse, Cond.instanceMethod yX6_refuse, Cond.selects RX6 yX6_refuse yX6_refuse, Cond.code yX6_refuse cX6_refuse 2 (some .int), Cond.methodLink RX6 232 yX6_finds, Cond.instanceMethod yX6_finds, Cond.selects RX6 yX6_finds yX6_finds, Cond.code yX6_finds cX6_finds 5 (some .boolean), Cond.methodLink RX6 219 yX6_hasRow, Cond.instanceMethod yX6_hasRow, Cond.selects RX6 yX6_hasRow yX6_hasRow, Cond.code yX6_hasRow cX6_hasRow 8 (some .boolean), Cond.fieldLink RX6 62 "PlateRoomModel" "mark" "[I", Cond.fieldLink RX6 59 "PlateRoomModel" "excess" "[I"]
def wsX6_ring_r2 : List Cond := [Cond.methodLink RX6 217 Lib.Math.max.name, Cond.static Lib.Math.max.name, Cond.initialized "java/lang/Math", Cond.code Lib.Math.max.name Lib.Math.max.code 2 (some .int), Cond.methodLink RX6 211 yX6_marks, Cond.instanceMethod yX6_marks, Cond.selects RX6 yX6_marks yX6_marks, Cond.code yX6_marks cX6_marks 5 none, Cond.methodLink RX6 207 Lib.Math.min.name, Cond.static Lib.Math.min.name, Cond.code Lib.Math.min.name Lib.Math.min.code 2 (some .int), Cond.methodLink RX6 201 yX6_leftOf, Cond.instanceMethod yX6_leftOf, Cond.selects RX6 yX6_leftOf yX6_leftOf, Cond.code yX6_leftOf cX6_leftOf 2 (some .int), Cond.fieldLink RX6 47 "PlateRoomModel" "left" "[I", Cond.methodLink RX6 204 yX6_rightOf, Cond.instanceMethod yX6_rightOf, Cond.selects RX6 yX6_rightOf yX6_rightOf, Cond.code yX6_rightOf cX6_rightOf 2 (some .int), Cond.fieldLink RX6 50 "PlateRoomModel" "right" "[I", Cond.methodLink RX6 214 yX6_counts, Cond.instanceMethod yX6_counts, Cond.selects RX6 yX6_counts yX6_counts]
def wsX6_ring_r3 : List Cond := [Cond.code yX6_counts cX6_counts 3 none, Cond.methodLink RX6 225 yX6_isNext, Cond.instanceMethod yX6_isNext, Cond.selects RX6 yX6_isNext yX6_isNext, Cond.code yX6_isNext cX6_isNext 4 (some .boolean)]
def wsX6_ring : List Cond := .code yX6_ring cX6_ring 2 (some .int) :: ((wsX6_ring_r1 ++ (wsX6_ring_r2 ++ wsX6_ring_r3)) ++ wsX60)
def wsX6_isEdge : List Cond := .code yX6_isEdge cX6_isEdge 4 (some .boolean) :: ([.fieldLink RX6 108 "PlateRoomModel" "plates" "I", .methodLink RX6 201 yX6_leftOf, .instanceMethod yX6_leftOf, .selects RX6 yX6_leftOf yX6_leftOf, .initialized RX6, .code yX6_leftOf cX6_leftOf 2 (some .int), .fieldLink RX6 47 "PlateRoomModel" "left" "[I", .methodLink RX6 204 yX6_rightOf, .instanceMethod yX6_rightOf, .selects RX6 yX6_rightOf yX6_rightOf, .code yX6_rightOf cX6_rightOf 2 (some .int), .fieldLink RX6 50 "PlateRoomModel" "right" "[I"] ++ wsX60)
def wsX6_rows_r1 : List Cond := [Cond.fieldLink RX6 101 "PlateRoomModel" "thrown" "I", Cond.fieldLink RX6 105 "PlateRoomModel" "status" "I", Cond.fieldLink RX6 108 "PlateRoomModel" "plates" "I", Cond.fieldLink RX6 62 "PlateRoomModel" "mark" "[I", Cond.fieldLink RX6 59 "PlateRoomModel" "excess" "[I", Cond.methodLink RX6 217 Lib.Math.max.name, Cond.static Lib.Math.max.name, Cond.initialized "java/lang/Math", Cond.code Lib.Math.max.name Lib.Math.max.code 2 (some .int), Cond.methodLink RX6 229 yX6_isSet, Cond.instanceMethod yX6_isSet, Cond.selects RX6 yX6_isSet yX6_isSet, Cond.initialized RX6, Cond.code yX6_isSet cX6_isSet 2 (some .boolean), Cond.methodLink RX6 115 yX6_refuse, Cond.instanceMethod yX6_refuse, Cond.selects RX6 yX6_refuse yX6_refuse, Cond.code yX6_refuse cX6_refuse 2 (some .int), Cond.methodLink RX6 211 yX6_marks, Cond.instanceMethod yX6_marks, Cond.selects RX6 yX6_marks yX6_marks, Cond.code yX6_marks cX6_marks 5 none, Cond.methodLink RX6 207 Lib.Math.min.name, Cond.static Lib.Math.min.name]
def wsX6_rows_r2 : List Cond := [Cond.code Lib.Math.min.name Lib.Math.min.code 2 (some .int), Cond.methodLink RX6 201 yX6_leftOf, Cond.instanceMethod yX6_leftOf, Cond.selects RX6 yX6_leftOf yX6_leftOf, Cond.code yX6_leftOf cX6_leftOf 2 (some .int), Cond.fieldLink RX6 47 "PlateRoomModel" "left" "[I", Cond.methodLink RX6 204 yX6_rightOf, Cond.instanceMethod yX6_rightOf, Cond.selects RX6 yX6_rightOf yX6_rightOf, Cond.code yX6_rightOf cX6_rightOf 2 (some .int), Cond.fieldLink RX6 50 "PlateRoomModel" "right" "[I", Cond.methodLink RX6 214 yX6_counts, Cond.instanceMethod yX6_counts, Cond.selects RX6 yX6_counts yX6_counts, Cond.code yX6_counts cX6_counts 3 none, Cond.methodLink RX6 238 yX6_isEdge, Cond.instanceMethod yX6_isEdge, Cond.selects RX6 yX6_isEdge yX6_isEdge, Cond.code yX6_isEdge cX6_isEdge 4 (some .boolean)]
def wsX6_rows : List Cond := .code yX6_rows cX6_rows 7 (some .int) :: ((wsX6_rows_r1 ++ wsX6_rows_r2) ++ wsX60)
def wsX6_out : List Cond := .code yX6_out cX6_out 2 (some .int) :: ([.fieldLink RX6 101 "PlateRoomModel" "thrown" "I", .fieldLink RX6 235 "PlateRoomModel" "outs" "I", .fieldLink RX6 53 "PlateRoomModel" "out" "[I"] ++ wsX60)
def wsX6_want : List Cond := .code yX6_want cX6_want 5 (some .boolean) :: ([.fieldLink RX6 101 "PlateRoomModel" "thrown" "I", .fieldLink RX6 105 "PlateRoomModel" "status" "I", .fieldLink RX6 65 "PlateRoomModel" "wanted" "[I", .fieldLink RX6 68 "PlateRoomModel" "hours" "[I", .fieldLink RX6 71 "PlateRoomModel" "lost" "[I", .methodLink RX6 122 yX6_isPlate, .instanceMethod yX6_isPlate, .selects RX6 yX6_isPlate yX6_isPlate, .initialized RX6, .code yX6_isPlate cX6_isPlate 2 (some .boolean), .fieldLink RX6 108 "PlateRoomModel" "plates" "I", .methodLink RX6 143 yX6_no, .instanceMethod yX6_no, .selects RX6 yX6_no yX6_no, .code yX6_no cX6_no 2 (some .boolean)] ++ wsX60)
def wsX6_orders : List Cond := .code yX6_orders cX6_orders 3 none :: ([.fieldLink RX6 108 "PlateRoomModel" "plates" "I", .fieldLink RX6 71 "PlateRoomModel" "lost" "[I", .fieldLink RX6 74 "PlateRoomModel" "order" "[I"] ++ wsX60)
def wsX6_mostOf : List Cond := .code yX6_mostOf cX6_mostOf 5 (some .int) :: ([.fieldLink RX6 80 "PlateRoomModel" "most" "[I", .fieldLink RX6 108 "PlateRoomModel" "plates" "I", .fieldLink RX6 74 "PlateRoomModel" "order" "[I", .fieldLink RX6 83 "PlateRoomModel" "then" "[I", .fieldLink RX6 77 "PlateRoomModel" "fixed" "[I", .fieldLink RX6 68 "PlateRoomModel" "hours" "[I", .fieldLink RX6 71 "PlateRoomModel" "lost" "[I", .fieldLink RX6 65 "PlateRoomModel" "wanted" "[I", .methodLink RX6 217 Lib.Math.max.name, .static Lib.Math.max.name, .initialized "java/lang/Math", .code Lib.Math.max.name Lib.Math.max.code 2 (some .int)] ++ wsX60)
def wsX6_chooses : List Cond := .code yX6_chooses cX6_chooses 3 (some .int) :: ([.fieldLink RX6 108 "PlateRoomModel" "plates" "I", .fieldLink RX6 77 "PlateRoomModel" "fixed" "[I", .methodLink RX6 241 yX6_orders, .instanceMethod yX6_orders, .selects RX6 yX6_orders yX6_orders, .initialized RX6, .code yX6_orders cX6_orders 3 none, .fieldLink RX6 71 "PlateRoomModel" "lost" "[I", .fieldLink RX6 74 "PlateRoomModel" "order" "[I", .methodLink RX6 244 yX6_mostOf, .instanceMethod yX6_mostOf, .selects RX6 yX6_mostOf yX6_mostOf, .code yX6_mostOf cX6_mostOf 5 (some .int), .fieldLink RX6 80 "PlateRoomModel" "most" "[I", .fieldLink RX6 83 "PlateRoomModel" "then" "[I", .fieldLink RX6 68 "PlateRoomModel" "hours" "[I", .fieldLink RX6 65 "PlateRoomModel" "wanted" "[I", .methodLink RX6 217 Lib.Math.max.name, .static Lib.Math.max.name, .initialized "java/lang/Math", .code Lib.Math.max.name Lib.Math.max.code 2 (some .int)] ++ wsX60)
def wsX6_best_r1 : List Cond := [Cond.fieldLink RX6 101 "PlateRoomModel" "thrown" "I", Cond.fieldLink RX6 105 "PlateRoomModel" "status" "I", Cond.methodLink RX6 248 yX6_chooses, Cond.instanceMethod yX6_chooses, Cond.selects RX6 yX6_chooses yX6_chooses, Cond.initialized RX6, Cond.code yX6_chooses cX6_chooses 3 (some .int), Cond.fieldLink RX6 108 "PlateRoomModel" "plates" "I", Cond.fieldLink RX6 77 "PlateRoomModel" "fixed" "[I", Cond.methodLink RX6 241 yX6_orders, Cond.instanceMethod yX6_orders, Cond.selects RX6 yX6_orders yX6_orders, Cond.code yX6_orders cX6_orders 3 none, Cond.fieldLink RX6 71 "PlateRoomModel" "lost" "[I", Cond.fieldLink RX6 74 "PlateRoomModel" "order" "[I", Cond.methodLink RX6 244 yX6_mostOf, Cond.instanceMethod yX6_mostOf, Cond.selects RX6 yX6_mostOf yX6_mostOf, Cond.code yX6_mostOf cX6_mostOf 5 (some .int), Cond.fieldLink RX6 80 "PlateRoomModel" "most" "[I", Cond.fieldLink RX6 83 "PlateRoomModel" "then" "[I", Cond.fieldLink RX6 68 "PlateRoomModel" "hours" "[I", Cond.fieldLink RX6 65 "PlateRoomModel" "wanted" "[I", Cond.methodLink RX6 217 Lib.Math.max.name]
def wsX6_best_r2 : List Cond := [Cond.static Lib.Math.max.name, Cond.initialized "java/lang/Math", Cond.code Lib.Math.max.name Lib.Math.max.code 2 (some .int)]
def wsX6_best : List Cond := .code yX6_best cX6_best 1 (some .int) :: ((wsX6_best_r1 ++ wsX6_best_r2) ++ wsX60)
def wsX6_hour_r1 : List Cond := [Cond.fieldLink RX6 101 "PlateRoomModel" "thrown" "I", Cond.fieldLink RX6 105 "PlateRoomModel" "status" "I", Cond.fieldLink RX6 77 "PlateRoomModel" "fixed" "[I", Cond.fieldLink RX6 74 "PlateRoomModel" "order" "[I", Cond.fieldLink RX6 68 "PlateRoomModel" "hours" "[I", Cond.methodLink RX6 122 yX6_isPlate, Cond.instanceMethod yX6_isPlate, Cond.selects RX6 yX6_isPlate yX6_isPlate, Cond.initialized RX6, Cond.code yX6_isPlate cX6_isPlate 2 (some .boolean), Cond.fieldLink RX6 108 "PlateRoomModel" "plates" "I", Cond.methodLink RX6 115 yX6_refuse, Cond.instanceMethod yX6_refuse, Cond.selects RX6 yX6_refuse yX6_refuse, Cond.code yX6_refuse cX6_refuse 2 (some .int), Cond.methodLink RX6 248 yX6_chooses, Cond.instanceMethod yX6_chooses, Cond.selects RX6 yX6_chooses yX6_chooses, Cond.code yX6_chooses cX6_chooses 3 (some .int), Cond.methodLink RX6 241 yX6_orders, Cond.instanceMethod yX6_orders, Cond.selects RX6 yX6_orders yX6_orders, Cond.code yX6_orders cX6_orders 3 none, Cond.fieldLink RX6 71 "PlateRoomModel" "lost" "[I"]
def wsX6_hour_r2 : List Cond := [Cond.methodLink RX6 244 yX6_mostOf, Cond.instanceMethod yX6_mostOf, Cond.selects RX6 yX6_mostOf yX6_mostOf, Cond.code yX6_mostOf cX6_mostOf 5 (some .int), Cond.fieldLink RX6 80 "PlateRoomModel" "most" "[I", Cond.fieldLink RX6 83 "PlateRoomModel" "then" "[I", Cond.fieldLink RX6 65 "PlateRoomModel" "wanted" "[I", Cond.methodLink RX6 217 Lib.Math.max.name, Cond.static Lib.Math.max.name, Cond.initialized "java/lang/Math", Cond.code Lib.Math.max.name Lib.Math.max.code 2 (some .int)]
def wsX6_hour : List Cond := .code yX6_hour cX6_hour 4 (some .int) :: ((wsX6_hour_r1 ++ wsX6_hour_r2) ++ wsX60)
def wsX6_law : List Cond := .code yX6_law cX6_law 3 (some .boolean) :: ([.fieldLink RX6 101 "PlateRoomModel" "thrown" "I", .fieldLink RX6 105 "PlateRoomModel" "status" "I", .constant RX6 114 (100000), .constant RX6 251 (50000), .fieldLink RX6 252 "PlateRoomModel" "laws" "I", .fieldLink RX6 86 "PlateRoomModel" "lawFrom" "[I", .fieldLink RX6 89 "PlateRoomModel" "lawDays" "[I", .methodLink RX6 143 yX6_no, .instanceMethod yX6_no, .selects RX6 yX6_no yX6_no, .initialized RX6, .code yX6_no cX6_no 2 (some .boolean)] ++ wsX60)
def wsX6_death : List Cond := .code yX6_death cX6_death 4 (some .boolean) :: ([.fieldLink RX6 101 "PlateRoomModel" "thrown" "I", .fieldLink RX6 105 "PlateRoomModel" "status" "I", .constant RX6 114 (100000), .fieldLink RX6 255 "PlateRoomModel" "deaths" "I", .fieldLink RX6 92 "PlateRoomModel" "deathOf" "[I", .fieldLink RX6 95 "PlateRoomModel" "deathDay" "[I", .fieldLink RX6 98 "PlateRoomModel" "deathTold" "[I", .methodLink RX6 122 yX6_isPlate, .instanceMethod yX6_isPlate, .selects RX6 yX6_isPlate yX6_isPlate, .initialized RX6, .code yX6_isPlate cX6_isPlate 2 (some .boolean), .fieldLink RX6 108 "PlateRoomModel" "plates" "I", .methodLink RX6 143 yX6_no, .instanceMethod yX6_no, .selects RX6 yX6_no yX6_no, .code yX6_no cX6_no 2 (some .boolean), .methodLink RX6 129 yX6_isDay, .static yX6_isDay, .code yX6_isDay cX6_isDay 1 (some .boolean)] ++ wsX60)
def wsX6_free : List Cond := .code yX6_free cX6_free 7 (some .int) :: ([.fieldLink RX6 101 "PlateRoomModel" "thrown" "I", .fieldLink RX6 105 "PlateRoomModel" "status" "I", .constant RX6 258 (200000), .fieldLink RX6 252 "PlateRoomModel" "laws" "I", .fieldLink RX6 86 "PlateRoomModel" "lawFrom" "[I", .fieldLink RX6 255 "PlateRoomModel" "deaths" "I", .fieldLink RX6 92 "PlateRoomModel" "deathOf" "[I", .fieldLink RX6 98 "PlateRoomModel" "deathTold" "[I", .fieldLink RX6 95 "PlateRoomModel" "deathDay" "[I", .fieldLink RX6 89 "PlateRoomModel" "lawDays" "[I", .methodLink RX6 122 yX6_isPlate, .instanceMethod yX6_isPlate, .selects RX6 yX6_isPlate yX6_isPlate, .initialized RX6, .code yX6_isPlate cX6_isPlate 2 (some .boolean), .fieldLink RX6 108 "PlateRoomModel" "plates" "I", .methodLink RX6 115 yX6_refuse, .instanceMethod yX6_refuse, .selects RX6 yX6_refuse yX6_refuse, .code yX6_refuse cX6_refuse 2 (some .int), .methodLink RX6 129 yX6_isDay, .static yX6_isDay, .code yX6_isDay cX6_isDay 1 (some .boolean)] ++ wsX60)
def wsJ9_max_7cf53 : List Cond := .code yJ9_max_7cf53 cJ9_max_7cf53 2 (some .int) :: ([])
def wsJ9_max_f86c9 : List Cond := .code yJ9_max_f86c9 cJ9_max_f86c9 4 (some .long) :: ([])
def wsJ9_min_7cf53 : List Cond := .code yJ9_min_7cf53 cJ9_min_7cf53 2 (some .int) :: ([])
def wsL_law_r1 : List Cond := [Cond.classLink RL 7 RX5, Cond.instantiable RX5 10, Cond.initialized RX5, Cond.classLink RL 10 RX6, Cond.instantiable RX6 41, Cond.initialized RX6, Cond.methodLink RL 9 yX5_init, Cond.instanceMethod yX5_init, Cond.code yX5_init cX5_init 1 none, Cond.methodLink RX5 3 objectInit, Cond.instanceMethod objectInit, Cond.code objectInit ⟨#[0xb1]⟩ 1 none, Cond.classLink RX5 9 RX2, Cond.instantiable RX2 8, Cond.initialized RX2, Cond.fieldLink RX5 12 "PlateRoom" "facts" "LPlateRoom$FactBook;", Cond.classLink RX5 16 RX4, Cond.instantiable RX4 6, Cond.initialized RX4, Cond.fieldLink RX5 19 "PlateRoom" "graph" "LPlateRoom$TimeGraph;", Cond.classLink RX5 23 RX1, Cond.instantiable RX1 5, Cond.initialized RX1, Cond.fieldLink RX5 26 "PlateRoom" "table" "LPlateRoom$EdgeTable;"]
def wsL_law_r2 : List Cond := [Cond.classLink RX5 30 RX0, Cond.instantiable RX0 6, Cond.initialized RX0, Cond.fieldLink RX5 33 "PlateRoom" "plan" "LPlateRoom$CopyPlan;", Cond.classLink RX5 37 RX3, Cond.instantiable RX3 7, Cond.initialized RX3, Cond.fieldLink RX5 40 "PlateRoom" "rights" "LPlateRoom$RightsBook;", Cond.arrayClass .int, Cond.fieldLink RX5 44 "PlateRoom" "outRow" "[I", Cond.fieldLink RX5 48 "PlateRoom" "lastStatus" "I", Cond.instanceMethod yX2_init, Cond.code yX2_init cX2_init 1 none, Cond.methodLink RX2 3 objectInit, Cond.fieldLink RX2 9 "PlateRoom$FactBook" "kinds" "[I", Cond.fieldLink RX2 15 "PlateRoom$FactBook" "toldOn" "[I", Cond.fieldLink RX2 18 "PlateRoom$FactBook" "crossedOn" "[I", Cond.fieldLink RX2 21 "PlateRoom$FactBook" "limitCounts" "[I", Cond.fieldLink RX2 24 "PlateRoom$FactBook" "tails" "[I", Cond.fieldLink RX2 27 "PlateRoom$FactBook" "heads" "[I", Cond.fieldLink RX2 30 "PlateRoom$FactBook" "lengths" "[I", Cond.instanceMethod yX4_init, Cond.code yX4_init cX4_init 1 none, Cond.methodLink RX4 3 objectInit]
def wsL_law_r3 : List Cond := [Cond.fieldLink RX4 9 "PlateRoom$TimeGraph" "tails" "[I", Cond.fieldLink RX4 15 "PlateRoom$TimeGraph" "heads" "[I", Cond.fieldLink RX4 18 "PlateRoom$TimeGraph" "lengths" "[I", Cond.fieldLink RX4 21 "PlateRoom$TimeGraph" "ways" "[I", Cond.fieldLink RX4 24 "PlateRoom$TimeGraph" "earlier" "[I", Cond.methodLink RX5 25 yX1_init, Cond.instanceMethod yX1_init, Cond.code yX1_init cX1_init 2 none, Cond.methodLink RX1 3 objectInit, Cond.fieldLink RX1 9 "PlateRoom$EdgeTable" "lefts" "[I", Cond.fieldLink RX1 15 "PlateRoom$EdgeTable" "rights" "[I", Cond.fieldLink RX1 18 "PlateRoom$EdgeTable" "likeLeft" "[I", Cond.fieldLink RX1 21 "PlateRoom$EdgeTable" "leftOf" "[I", Cond.fieldLink RX1 24 "PlateRoom$EdgeTable" "rightOf" "[I", Cond.methodLink RX1 27 yX1_compare, Cond.instanceMethod yX1_compare, Cond.selects RX1 yX1_compare yX1_compare, Cond.code yX1_compare cX1_compare 4 none, Cond.methodLink RX1 31 yX1_fits, Cond.static yX1_fits, Cond.code yX1_fits cX1_fits 2 (some .boolean), Cond.methodLink RX5 32 yX0_init, Cond.instanceMethod yX0_init, Cond.code yX0_init cX0_init 1 none]
def wsL_law_r4 : List Cond := [Cond.methodLink RX0 3 objectInit, Cond.fieldLink RX0 9 "PlateRoom$CopyPlan" "wanted" "[I", Cond.fieldLink RX0 15 "PlateRoom$CopyPlan" "hours" "[I", Cond.fieldLink RX0 18 "PlateRoom$CopyPlan" "lost" "[I", Cond.fieldLink RX0 21 "PlateRoom$CopyPlan" "turns" "[I", Cond.arrayClass .long, Cond.fieldLink RX0 24 "PlateRoom$CopyPlan" "worths" "[J", Cond.methodLink RX0 28 yJ7_fill_53178, Cond.static yJ7_fill_53178, Cond.initialized RJ7, Cond.code yJ7_fill_53178 cJ7_fill_53178 4 none, Cond.instanceMethod yX3_init, Cond.code yX3_init cX3_init 1 none, Cond.methodLink RX3 3 objectInit, Cond.fieldLink RX3 9 "PlateRoom$RightsBook" "lawStarts" "[I", Cond.fieldLink RX3 15 "PlateRoom$RightsBook" "lawDays" "[I", Cond.fieldLink RX3 18 "PlateRoom$RightsBook" "deathPlates" "[I", Cond.fieldLink RX3 21 "PlateRoom$RightsBook" "deathDays" "[I", Cond.fieldLink RX3 24 "PlateRoom$RightsBook" "deathsToldOn" "[I", Cond.methodLink RL 12 yX6_init, Cond.instanceMethod yX6_init, Cond.code yX6_init cX6_init 1 none, Cond.methodLink RX6 1 objectInit, Cond.fieldLink RX6 7 "PlateRoomModel" "kind" "[I"]
def wsL_law_r5 : List Cond := [Cond.fieldLink RX6 13 "PlateRoomModel" "first" "[I", Cond.fieldLink RX6 16 "PlateRoomModel" "second" "[I", Cond.fieldLink RX6 19 "PlateRoomModel" "third" "[I", Cond.fieldLink RX6 22 "PlateRoomModel" "told" "[I", Cond.fieldLink RX6 25 "PlateRoomModel" "crossed" "[I", Cond.fieldLink RX6 28 "PlateRoomModel" "wayFrom" "[I", Cond.fieldLink RX6 31 "PlateRoomModel" "wayTo" "[I", Cond.fieldLink RX6 34 "PlateRoomModel" "wayMore" "[J", Cond.fieldLink RX6 38 "PlateRoomModel" "far" "[J", Cond.fieldLink RX6 41 "PlateRoomModel" "more" "[J", Cond.fieldLink RX6 44 "PlateRoomModel" "now" "[J", Cond.fieldLink RX6 47 "PlateRoomModel" "left" "[I", Cond.fieldLink RX6 50 "PlateRoomModel" "right" "[I", Cond.fieldLink RX6 53 "PlateRoomModel" "out" "[I", Cond.fieldLink RX6 56 "PlateRoomModel" "row" "[I", Cond.fieldLink RX6 59 "PlateRoomModel" "excess" "[I", Cond.fieldLink RX6 62 "PlateRoomModel" "mark" "[I", Cond.fieldLink RX6 65 "PlateRoomModel" "wanted" "[I", Cond.fieldLink RX6 68 "PlateRoomModel" "hours" "[I", Cond.fieldLink RX6 71 "PlateRoomModel" "lost" "[I", Cond.fieldLink RX6 74 "PlateRoomModel" "order" "[I", Cond.fieldLink RX6 77 "PlateRoomModel" "fixed" "[I", Cond.fieldLink RX6 80 "PlateRoomModel" "most" "[I", Cond.fieldLink RX6 83 "PlateRoomModel" "then" "[I"]
def wsL_law_r6 : List Cond := [Cond.fieldLink RX6 86 "PlateRoomModel" "lawFrom" "[I", Cond.fieldLink RX6 89 "PlateRoomModel" "lawDays" "[I", Cond.fieldLink RX6 92 "PlateRoomModel" "deathOf" "[I", Cond.fieldLink RX6 95 "PlateRoomModel" "deathDay" "[I", Cond.fieldLink RX6 98 "PlateRoomModel" "deathTold" "[I", Cond.methodLink RL 13 yX5_status, Cond.instanceMethod yX5_status, Cond.selects RX5 yX5_status yX5_status, Cond.code yX5_status cX5_status 1 (some .int), Cond.methodLink RL 17 yX6_status, Cond.instanceMethod yX6_status, Cond.selects RX6 yX6_status yX6_status, Cond.code yX6_status cX6_status 1 (some .int), Cond.fieldLink RX6 101 "PlateRoomModel" "thrown" "I", Cond.fieldLink RX6 105 "PlateRoomModel" "status" "I", Cond.methodLink RL 18 yX5_plate, Cond.instanceMethod yX5_plate, Cond.selects RX5 yX5_plate yX5_plate, Cond.code yX5_plate cX5_plate 1 (some .int), Cond.fieldLink RX5 52 "PlateRoom" "plateCount" "I", Cond.methodLink RX5 55 yX5_refuse, Cond.instanceMethod yX5_refuse, Cond.selects RX5 yX5_refuse yX5_refuse, Cond.code yX5_refuse cX5_refuse 2 (some .int)]
def wsL_law_r7 : List Cond := [Cond.methodLink RX5 59 yX5_answer, Cond.instanceMethod yX5_answer, Cond.selects RX5 yX5_answer yX5_answer, Cond.code yX5_answer cX5_answer 2 (some .int), Cond.methodLink RL 21 yX6_plate, Cond.instanceMethod yX6_plate, Cond.selects RX6 yX6_plate yX6_plate, Cond.code yX6_plate cX6_plate 1 (some .int), Cond.fieldLink RX6 108 "PlateRoomModel" "plates" "I", Cond.methodLink RX6 115 yX6_refuse, Cond.instanceMethod yX6_refuse, Cond.selects RX6 yX6_refuse yX6_refuse, Cond.code yX6_refuse cX6_refuse 2 (some .int), Cond.methodLink RL 22 yX5_motif, Cond.instanceMethod yX5_motif, Cond.selects RX5 yX5_motif yX5_motif, Cond.code yX5_motif cX5_motif 1 (some .int), Cond.fieldLink RX5 62 "PlateRoom" "motifCount" "I", Cond.methodLink RL 25 yX6_motif, Cond.instanceMethod yX6_motif, Cond.selects RX6 yX6_motif yX6_motif, Cond.code yX6_motif cX6_motif 1 (some .int), Cond.fieldLink RX6 111 "PlateRoomModel" "motifs" "I", Cond.methodLink RL 26 yX5_shows]
def wsL_law_r8 : List Cond := [Cond.instanceMethod yX5_shows, Cond.selects RX5 yX5_shows yX5_shows, Cond.code yX5_shows cX5_shows 6 (some .int), Cond.methodLink RX5 65 yX5_isPlate, Cond.instanceMethod yX5_isPlate, Cond.selects RX5 yX5_isPlate yX5_isPlate, Cond.code yX5_isPlate cX5_isPlate 2 (some .boolean), Cond.methodLink RX5 69 yX5_isMotif, Cond.instanceMethod yX5_isMotif, Cond.selects RX5 yX5_isMotif yX5_isMotif, Cond.code yX5_isMotif cX5_isMotif 2 (some .boolean), Cond.methodLink RX5 72 yX5_isDay, Cond.static yX5_isDay, Cond.code yX5_isDay cX5_isDay 1 (some .boolean), Cond.methodLink RX5 100 yX5_isWithin, Cond.static yX5_isWithin, Cond.code yX5_isWithin cX5_isWithin 3 (some .boolean), Cond.methodLink RX5 75 yX5_whyNoFact, Cond.instanceMethod yX5_whyNoFact, Cond.selects RX5 yX5_whyNoFact yX5_whyNoFact, Cond.code yX5_whyNoFact cX5_whyNoFact 4 (some .int), Cond.methodLink RX5 114 yX5_whyNot, Cond.static yX5_whyNot, Cond.code yX5_whyNot cX5_whyNot 2 (some .int)]
def wsL_law_r9 : List Cond := [Cond.methodLink RX5 211 yX2_isFull, Cond.instanceMethod yX2_isFull, Cond.selects RX2 yX2_isFull yX2_isFull, Cond.code yX2_isFull cX2_isFull 1 (some .boolean), Cond.fieldLink RX2 33 "PlateRoom$FactBook" "count" "I", Cond.methodLink RX5 79 yX2_tell, Cond.instanceMethod yX2_tell, Cond.selects RX2 yX2_tell yX2_tell, Cond.code yX2_tell cX2_tell 3 (some .int), Cond.methodLink RX2 37 yX2_isFull, Cond.methodLink RX5 83 yX5_platePoint, Cond.static yX5_platePoint, Cond.code yX5_platePoint cX5_platePoint 1 (some .int), Cond.methodLink RX5 86 yX5_motifPoint, Cond.static yX5_motifPoint, Cond.code yX5_motifPoint cX5_motifPoint 2 (some .int), Cond.methodLink RX5 90 yX2_addLimit, Cond.instanceMethod yX2_addLimit, Cond.selects RX2 yX2_addLimit yX2_addLimit, Cond.code yX2_addLimit cX2_addLimit 6 none, Cond.methodLink RL 30 yX6_shows, Cond.instanceMethod yX6_shows, Cond.selects RX6 yX6_shows yX6_shows, Cond.code yX6_shows cX6_shows 4 (some .int)]
def wsL_law_r10 : List Cond := [Cond.methodLink RX6 122 yX6_isPlate, Cond.instanceMethod yX6_isPlate, Cond.selects RX6 yX6_isPlate yX6_isPlate, Cond.code yX6_isPlate cX6_isPlate 2 (some .boolean), Cond.methodLink RX6 126 yX6_isMotif, Cond.instanceMethod yX6_isMotif, Cond.selects RX6 yX6_isMotif yX6_isMotif, Cond.code yX6_isMotif cX6_isMotif 2 (some .boolean), Cond.methodLink RX6 129 yX6_isDay, Cond.static yX6_isDay, Cond.code yX6_isDay cX6_isDay 1 (some .boolean), Cond.methodLink RX6 132 yX6_adds, Cond.instanceMethod yX6_adds, Cond.selects RX6 yX6_adds yX6_adds, Cond.code yX6_adds cX6_adds 6 (some .int), Cond.fieldLink RX6 119 "PlateRoomModel" "facts" "I", Cond.methodLink RL 31 yX5_ahead, Cond.instanceMethod yX5_ahead, Cond.selects RX5 yX5_ahead yX5_ahead, Cond.code yX5_ahead cX5_ahead 7 (some .int), Cond.constant RX5 98 (-100000), Cond.constant RX5 99 (100000), Cond.methodLink RX5 94 yX5_areTwoPlates, Cond.instanceMethod yX5_areTwoPlates]
def wsL_law_r11 : List Cond := [Cond.selects RX5 yX5_areTwoPlates yX5_areTwoPlates, Cond.code yX5_areTwoPlates cX5_areTwoPlates 3 (some .boolean), Cond.methodLink RL 35 yX6_ahead, Cond.instanceMethod yX6_ahead, Cond.selects RX6 yX6_ahead yX6_ahead, Cond.code yX6_ahead cX6_ahead 5 (some .int), Cond.constant RX6 136 (-100000), Cond.constant RX6 114 (100000), Cond.methodLink RL 36 yX5_same, Cond.instanceMethod yX5_same, Cond.selects RX5 yX5_same yX5_same, Cond.code yX5_same cX5_same 6 (some .int), Cond.methodLink RL 39 yX6_same, Cond.instanceMethod yX6_same, Cond.selects RX6 yX6_same yX6_same, Cond.code yX6_same cX6_same 4 (some .int), Cond.methodLink RL 40 yX5_taken, Cond.instanceMethod yX5_taken, Cond.selects RX5 yX5_taken yX5_taken, Cond.code yX5_taken cX5_taken 6 (some .int), Cond.methodLink RX5 104 yX5_isTimeRange, Cond.static yX5_isTimeRange, Cond.code yX5_isTimeRange cX5_isTimeRange 2 (some .boolean), Cond.methodLink RX5 107 yX5_tellRange]
def wsL_law_r12 : List Cond := [Cond.instanceMethod yX5_tellRange, Cond.selects RX5 yX5_tellRange yX5_tellRange, Cond.code yX5_tellRange cX5_tellRange 7 (some .int), Cond.methodLink RL 43 yX6_taken, Cond.instanceMethod yX6_taken, Cond.selects RX6 yX6_taken yX6_taken, Cond.code yX6_taken cX6_taken 5 (some .int), Cond.methodLink RX6 137 yX6_isTime, Cond.static yX6_isTime, Cond.code yX6_isTime cX6_isTime 1 (some .boolean), Cond.methodLink RL 44 yX5_stood, Cond.instanceMethod yX5_stood, Cond.selects RX5 yX5_stood yX5_stood, Cond.code yX5_stood cX5_stood 7 (some .int), Cond.methodLink RL 48 yX6_stood, Cond.instanceMethod yX6_stood, Cond.selects RX6 yX6_stood yX6_stood, Cond.code yX6_stood cX6_stood 6 (some .int), Cond.methodLink RL 49 yX5_cross, Cond.instanceMethod yX5_cross, Cond.selects RX5 yX5_cross yX5_cross, Cond.code yX5_cross cX5_cross 4 (some .boolean), Cond.methodLink RX5 111 yX2_has, Cond.instanceMethod yX2_has]
def wsL_law_r13 : List Cond := [Cond.selects RX2 yX2_has yX2_has, Cond.code yX2_has cX2_has 2 (some .boolean), Cond.methodLink RX5 117 yX2_crossingDay, Cond.instanceMethod yX2_crossingDay, Cond.selects RX2 yX2_crossingDay yX2_crossingDay, Cond.code yX2_crossingDay cX2_crossingDay 2 (some .int), Cond.methodLink RX2 41 yX2_has, Cond.methodLink RX5 120 yX2_crossOut, Cond.instanceMethod yX2_crossOut, Cond.selects RX2 yX2_crossOut yX2_crossOut, Cond.code yX2_crossOut cX2_crossOut 3 none, Cond.methodLink RL 53 yX6_cross, Cond.instanceMethod yX6_cross, Cond.selects RX6 yX6_cross yX6_cross, Cond.code yX6_cross cX6_cross 3 (some .boolean), Cond.methodLink RX6 140 yX6_isFact, Cond.instanceMethod yX6_isFact, Cond.selects RX6 yX6_isFact yX6_isFact, Cond.code yX6_isFact cX6_isFact 2 (some .boolean), Cond.methodLink RX6 143 yX6_no, Cond.instanceMethod yX6_no, Cond.selects RX6 yX6_no yX6_no, Cond.code yX6_no cX6_no 2 (some .boolean), Cond.methodLink RL 54 yX5_fact]
def wsL_law_r14 : List Cond := [Cond.instanceMethod yX5_fact, Cond.selects RX5 yX5_fact yX5_fact, Cond.code yX5_fact cX5_fact 4 (some .int), Cond.methodLink RX5 124 yX2_kindOf, Cond.instanceMethod yX2_kindOf, Cond.selects RX2 yX2_kindOf yX2_kindOf, Cond.code yX2_kindOf cX2_kindOf 2 (some .int), Cond.methodLink RX5 127 yX2_tellingDay, Cond.instanceMethod yX2_tellingDay, Cond.selects RX2 yX2_tellingDay yX2_tellingDay, Cond.code yX2_tellingDay cX2_tellingDay 2 (some .int), Cond.methodLink RX5 130 yX2_limitsOf, Cond.instanceMethod yX2_limitsOf, Cond.selects RX2 yX2_limitsOf yX2_limitsOf, Cond.code yX2_limitsOf cX2_limitsOf 2 (some .int), Cond.methodLink RL 58 yX6_fact, Cond.instanceMethod yX6_fact, Cond.selects RX6 yX6_fact yX6_fact, Cond.code yX6_fact cX6_fact 3 (some .int), Cond.methodLink RL 59 yX5_span, Cond.instanceMethod yX5_span, Cond.selects RX5 yX5_span yX5_span, Cond.code yX5_span cX5_span 5 (some .int), Cond.methodLink RX5 133 yX5_endOfSpan]
def wsL_law_r15 : List Cond := [Cond.instanceMethod yX5_endOfSpan, Cond.selects RX5 yX5_endOfSpan yX5_endOfSpan, Cond.code yX5_endOfSpan cX5_endOfSpan 4 (some .int), Cond.methodLink RX5 137 yX4_gather, Cond.instanceMethod yX4_gather, Cond.selects RX4 yX4_gather yX4_gather, Cond.code yX4_gather cX4_gather 5 none, Cond.fieldLink RX4 27 "PlateRoom$TimeGraph" "limitCount" "I", Cond.methodLink RX4 31 yX2_size, Cond.instanceMethod yX2_size, Cond.selects RX2 yX2_size yX2_size, Cond.code yX2_size cX2_size 1 (some .int), Cond.methodLink RX4 37 yX2_isKnown, Cond.instanceMethod yX2_isKnown, Cond.selects RX2 yX2_isKnown yX2_isKnown, Cond.code yX2_isKnown cX2_isKnown 3 (some .boolean), Cond.methodLink RX4 41 yX2_copyLimits, Cond.instanceMethod yX2_copyLimits, Cond.selects RX2 yX2_copyLimits yX2_copyLimits, Cond.code yX2_copyLimits cX2_copyLimits 7 (some .int), Cond.methodLink RX2 45 yX2_limitsOf, Cond.methodLink RX2 49 yX4_setLimit, Cond.instanceMethod yX4_setLimit, Cond.selects RX4 yX4_setLimit yX4_setLimit]
def wsL_law_r16 : List Cond := [Cond.code yX4_setLimit cX4_setLimit 5 none, Cond.methodLink RX5 141 yX4_measureFrom, Cond.instanceMethod yX4_measureFrom, Cond.selects RX4 yX4_measureFrom yX4_measureFrom, Cond.code yX4_measureFrom cX4_measureFrom 3 (some .boolean), Cond.methodLink RX4 46 yX4_startAt, Cond.instanceMethod yX4_startAt, Cond.selects RX4 yX4_startAt yX4_startAt, Cond.code yX4_startAt cX4_startAt 3 none, Cond.constant RX4 45 (536870912), Cond.methodLink RX4 73 yJ7_fill_53178, Cond.methodLink RX4 54 yX4_followBounds, Cond.instanceMethod yX4_followBounds, Cond.selects RX4 yX4_followBounds yX4_followBounds, Cond.code yX4_followBounds cX4_followBounds 3 none, Cond.methodLink RX4 62 Lib.Math.min.name, Cond.static Lib.Math.min.name, Cond.initialized "java/lang/Math", Cond.code Lib.Math.min.name Lib.Math.min.code 2 (some .int), Cond.methodLink RX4 79 yX4_followRange, Cond.instanceMethod yX4_followRange, Cond.selects RX4 yX4_followRange yX4_followRange, Cond.code yX4_followRange cX4_followRange 3 none, Cond.constant RX4 82 (100000)]
def wsL_law_r17 : List Cond := [Cond.methodLink RX4 50 yX4_followLimits, Cond.instanceMethod yX4_followLimits, Cond.selects RX4 yX4_followLimits yX4_followLimits, Cond.code yX4_followLimits cX4_followLimits 8 (some .boolean), Cond.methodLink RX5 151 yX4_wayTo, Cond.instanceMethod yX4_wayTo, Cond.selects RX4 yX4_wayTo yX4_wayTo, Cond.code yX4_wayTo cX4_wayTo 2 (some .int), Cond.methodLink RL 63 yX6_span, Cond.instanceMethod yX6_span, Cond.selects RX6 yX6_span yX6_span, Cond.code yX6_span cX6_span 4 (some .int), Cond.methodLink RX6 155 yX6_placeOf, Cond.static yX6_placeOf, Cond.code yX6_placeOf cX6_placeOf 1 (some .int), Cond.methodLink RX6 188 yX6_spanOf, Cond.instanceMethod yX6_spanOf, Cond.selects RX6 yX6_spanOf yX6_spanOf, Cond.code yX6_spanOf cX6_spanOf 4 (some .int), Cond.methodLink RX6 181 yX6_net, Cond.instanceMethod yX6_net, Cond.selects RX6 yX6_net yX6_net, Cond.code yX6_net cX6_net 6 none, Cond.fieldLink RX6 146 "PlateRoomModel" "ways" "I"]
def wsL_law_r18 : List Cond := [Cond.fieldLink RX6 168 "PlateRoomModel" "bounds" "I", Cond.methodLink RX6 158 yX6_bound, Cond.instanceMethod yX6_bound, Cond.selects RX6 yX6_bound yX6_bound, Cond.code yX6_bound cX6_bound 2 none, Cond.constantLong RX6 153 (-100000), Cond.methodLink RX6 149 yX6_way, Cond.instanceMethod yX6_way, Cond.selects RX6 yX6_way yX6_way, Cond.code yX6_way cX6_way 5 none, Cond.methodLink RX6 162 yX6_begins, Cond.static yX6_begins, Cond.code yX6_begins cX6_begins 1 (some .int), Cond.methodLink RX6 165 yX6_endsAt, Cond.static yX6_endsAt, Cond.code yX6_endsAt cX6_endsAt 1 (some .int), Cond.methodLink RX6 171 yX6_isKnown, Cond.instanceMethod yX6_isKnown, Cond.selects RX6 yX6_isKnown yX6_isKnown, Cond.code yX6_isKnown cX6_isKnown 3 (some .boolean), Cond.methodLink RX6 175 yX6_within, Cond.instanceMethod yX6_within, Cond.selects RX6 yX6_within yX6_within, Cond.code yX6_within cX6_within 4 none]
def wsL_law_r19 : List Cond := [Cond.methodLink RX6 185 yX6_goes, Cond.instanceMethod yX6_goes, Cond.selects RX6 yX6_goes yX6_goes, Cond.code yX6_goes cX6_goes 5 (some .boolean), Cond.constantLong RX6 179 (-4000000000000), Cond.methodLink RL 64 yX5_times, Cond.instanceMethod yX5_times, Cond.selects RX5 yX5_times yX5_times, Cond.code yX5_times cX5_times 6 (some .int), Cond.methodLink RL 68 yX6_times, Cond.instanceMethod yX6_times, Cond.selects RX6 yX6_times yX6_times, Cond.code yX6_times cX6_times 5 (some .int), Cond.methodLink RL 69 yX5_quarrel, Cond.instanceMethod yX5_quarrel, Cond.selects RX5 yX5_quarrel yX5_quarrel, Cond.code yX5_quarrel cX5_quarrel 2 (some .int), Cond.methodLink RX5 144 yX4_fewestLimits, Cond.instanceMethod yX4_fewestLimits, Cond.selects RX4 yX4_fewestLimits yX4_fewestLimits, Cond.code yX4_fewestLimits cX4_fewestLimits 3 (some .int), Cond.methodLink RX4 58 yX4_fewerLimitsThrough, Cond.instanceMethod yX4_fewerLimitsThrough, Cond.selects RX4 yX4_fewerLimitsThrough yX4_fewerLimitsThrough]
def wsL_law_r20 : List Cond := [Cond.code yX4_fewerLimitsThrough cX4_fewerLimitsThrough 5 (some .int), Cond.methodLink RX4 67 arraycopyName, Cond.native arraycopyName, Cond.static arraycopyName, Cond.initialized "java/lang/System", Cond.methodLink RL 73 yX6_quarrel, Cond.instanceMethod yX6_quarrel, Cond.selects RX6 yX6_quarrel yX6_quarrel, Cond.code yX6_quarrel cX6_quarrel 6 (some .int), Cond.methodLink RX6 192 yX6_longer, Cond.instanceMethod yX6_longer, Cond.selects RX6 yX6_longer yX6_longer, Cond.code yX6_longer cX6_longer 6 none, Cond.methodLink RX6 195 Lib.MathLoose.max_long.x, Cond.static Lib.MathLoose.max_long.x, Cond.code Lib.MathLoose.max_long.x Lib.MathLoose.max_long.code 4 (some .long), Cond.methodLink RL 74 yX5_frees, Cond.instanceMethod yX5_frees, Cond.selects RX5 yX5_frees yX5_frees, Cond.code yX5_frees cX5_frees 4 (some .int), Cond.methodLink RX5 148 yX2_isKnown, Cond.methodLink RL 77 yX6_frees, Cond.instanceMethod yX6_frees, Cond.selects RX6 yX6_frees yX6_frees]
def wsL_law_r21 : List Cond := [Cond.code yX6_frees cX6_frees 3 (some .int), Cond.methodLink RL 78 yX5_order, Cond.instanceMethod yX5_order, Cond.selects RX5 yX5_order yX5_order, Cond.code yX5_order cX5_order 6 (some .int), Cond.methodLink RL 81 yX6_order, Cond.instanceMethod yX6_order, Cond.selects RX6 yX6_order yX6_order, Cond.code yX6_order cX6_order 4 (some .int), Cond.methodLink RL 82 yX5_edges, Cond.instanceMethod yX5_edges, Cond.selects RX5 yX5_edges yX5_edges, Cond.code yX5_edges cX5_edges 5 (some .boolean), Cond.methodLink RX5 154 yX1_setEdges, Cond.instanceMethod yX1_setEdges, Cond.selects RX1 yX1_setEdges yX1_setEdges, Cond.code yX1_setEdges cX1_setEdges 5 none, Cond.methodLink RL 86 yX6_edges, Cond.instanceMethod yX6_edges, Cond.selects RX6 yX6_edges yX6_edges, Cond.code yX6_edges cX6_edges 4 (some .boolean), Cond.methodLink RL 87 yX5_row, Cond.instanceMethod yX5_row, Cond.selects RX5 yX5_row yX5_row]
def wsL_law_r22 : List Cond := [Cond.code yX5_row cX5_row 3 (some .int), Cond.fieldLink RX5 164 "PlateRoom" "outLength" "I", Cond.methodLink RX5 157 yX5_whyNoRow, Cond.instanceMethod yX5_whyNoRow, Cond.selects RX5 yX5_whyNoRow yX5_whyNoRow, Cond.code yX5_whyNoRow cX5_whyNoRow 2 (some .int), Cond.methodLink RX5 170 yX5_isSet, Cond.instanceMethod yX5_isSet, Cond.selects RX5 yX5_isSet yX5_isSet, Cond.code yX5_isSet cX5_isSet 3 (some .boolean), Cond.methodLink RX5 173 yX1_fewestRows, Cond.instanceMethod yX1_fewestRows, Cond.selects RX1 yX1_fewestRows yX1_fewestRows, Cond.code yX1_fewestRows cX1_fewestRows 6 (some .int), Cond.methodLink RX1 41 Lib.Math.max.name, Cond.static Lib.Math.max.name, Cond.code Lib.Math.max.name Lib.Math.max.code 2 (some .int), Cond.methodLink RX1 53 yX1_partOf, Cond.instanceMethod yX1_partOf, Cond.selects RX1 yX1_partOf yX1_partOf, Cond.code yX1_partOf cX1_partOf 6 (some .int), Cond.methodLink RX1 47 yX1_holds, Cond.static yX1_holds, Cond.code yX1_holds cX1_holds 2 (some .boolean)]
def wsL_law_r23 : List Cond := [Cond.methodLink RX1 56 yX1_startsIn, Cond.instanceMethod yX1_startsIn, Cond.selects RX1 yX1_startsIn yX1_startsIn, Cond.code yX1_startsIn cX1_startsIn 5 (some .int), Cond.methodLink RX1 50 yX1_missingLeftOf, Cond.instanceMethod yX1_missingLeftOf, Cond.selects RX1 yX1_missingLeftOf yX1_missingLeftOf, Cond.code yX1_missingLeftOf cX1_missingLeftOf 3 (some .int), Cond.methodLink RX1 35 yJ6_bitCount_0f7a4, Cond.static yJ6_bitCount_0f7a4, Cond.initialized RJ6, Cond.code yJ6_bitCount_0f7a4 cJ6_bitCount_0f7a4 1 (some .int), Cond.constant RJ6 265 (1431655765), Cond.constant RJ6 266 (858993459), Cond.constant RJ6 267 (252645135), Cond.methodLink RX5 160 yX1_writeFirstRow, Cond.instanceMethod yX1_writeFirstRow, Cond.selects RX1 yX1_writeFirstRow yX1_writeFirstRow, Cond.code yX1_writeFirstRow cX1_writeFirstRow 7 (some .int), Cond.methodLink RX1 59 yX1_firstPlaces, Cond.instanceMethod yX1_firstPlaces, Cond.selects RX1 yX1_firstPlaces yX1_firstPlaces, Cond.code yX1_firstPlaces cX1_firstPlaces 4 (some .int), Cond.methodLink RX1 62 yX1_leastThatGoesOn]
def wsL_law_r24 : List Cond := [Cond.instanceMethod yX1_leastThatGoesOn, Cond.selects RX1 yX1_leastThatGoesOn yX1_leastThatGoesOn, Cond.code yX1_leastThatGoesOn cX1_leastThatGoesOn 4 (some .int), Cond.methodLink RX1 65 yX1_goesOn, Cond.instanceMethod yX1_goesOn, Cond.selects RX1 yX1_goesOn yX1_goesOn, Cond.code yX1_goesOn cX1_goesOn 3 (some .boolean), Cond.methodLink RL 90 yX6_row, Cond.instanceMethod yX6_row, Cond.selects RX6 yX6_row yX6_row, Cond.code yX6_row cX6_row 3 (some .int), Cond.fieldLink RX6 222 "PlateRoomModel" "rowMany" "I", Cond.fieldLink RX6 235 "PlateRoomModel" "outs" "I", Cond.methodLink RX6 229 yX6_isSet, Cond.instanceMethod yX6_isSet, Cond.selects RX6 yX6_isSet yX6_isSet, Cond.code yX6_isSet cX6_isSet 2 (some .boolean), Cond.methodLink RX6 232 yX6_finds, Cond.instanceMethod yX6_finds, Cond.selects RX6 yX6_finds yX6_finds, Cond.code yX6_finds cX6_finds 5 (some .boolean), Cond.methodLink RX6 219 yX6_hasRow, Cond.instanceMethod yX6_hasRow, Cond.selects RX6 yX6_hasRow yX6_hasRow]
def wsL_law_r25 : List Cond := [Cond.code yX6_hasRow cX6_hasRow 8 (some .boolean), Cond.methodLink RX6 217 Lib.Math.max.name, Cond.methodLink RX6 211 yX6_marks, Cond.instanceMethod yX6_marks, Cond.selects RX6 yX6_marks yX6_marks, Cond.code yX6_marks cX6_marks 5 none, Cond.methodLink RX6 207 Lib.Math.min.name, Cond.methodLink RX6 201 yX6_leftOf, Cond.instanceMethod yX6_leftOf, Cond.selects RX6 yX6_leftOf yX6_leftOf, Cond.code yX6_leftOf cX6_leftOf 2 (some .int), Cond.methodLink RX6 204 yX6_rightOf, Cond.instanceMethod yX6_rightOf, Cond.selects RX6 yX6_rightOf yX6_rightOf, Cond.code yX6_rightOf cX6_rightOf 2 (some .int), Cond.methodLink RX6 214 yX6_counts, Cond.instanceMethod yX6_counts, Cond.selects RX6 yX6_counts yX6_counts, Cond.code yX6_counts cX6_counts 3 none, Cond.methodLink RX6 225 yX6_isNext, Cond.instanceMethod yX6_isNext, Cond.selects RX6 yX6_isNext yX6_isNext, Cond.code yX6_isNext cX6_isNext 4 (some .boolean), Cond.methodLink RL 91 yX5_ring]
def wsL_law_r26 : List Cond := [Cond.instanceMethod yX5_ring, Cond.selects RX5 yX5_ring yX5_ring, Cond.code yX5_ring cX5_ring 3 (some .int), Cond.methodLink RX5 167 yX1_startsIn, Cond.methodLink RL 94 yX6_ring, Cond.instanceMethod yX6_ring, Cond.selects RX6 yX6_ring yX6_ring, Cond.code yX6_ring cX6_ring 2 (some .int), Cond.methodLink RL 95 yX5_rows, Cond.instanceMethod yX5_rows, Cond.selects RX5 yX5_rows yX5_rows, Cond.code yX5_rows cX5_rows 2 (some .int), Cond.methodLink RL 98 yX6_rows, Cond.instanceMethod yX6_rows, Cond.selects RX6 yX6_rows yX6_rows, Cond.code yX6_rows cX6_rows 7 (some .int), Cond.methodLink RX6 238 yX6_isEdge, Cond.instanceMethod yX6_isEdge, Cond.selects RX6 yX6_isEdge yX6_isEdge, Cond.code yX6_isEdge cX6_isEdge 4 (some .boolean), Cond.methodLink RL 99 yX5_out, Cond.instanceMethod yX5_out, Cond.selects RX5 yX5_out yX5_out, Cond.code yX5_out cX5_out 2 (some .int)]
def wsL_law_r27 : List Cond := [Cond.methodLink RL 102 yX6_out, Cond.instanceMethod yX6_out, Cond.selects RX6 yX6_out yX6_out, Cond.code yX6_out cX6_out 2 (some .int), Cond.methodLink RL 103 yX5_want, Cond.instanceMethod yX5_want, Cond.selects RX5 yX5_want yX5_want, Cond.code yX5_want cX5_want 6 (some .boolean), Cond.methodLink RX5 176 yX0_setWish, Cond.instanceMethod yX0_setWish, Cond.selects RX0 yX0_setWish yX0_setWish, Cond.code yX0_setWish cX0_setWish 5 none, Cond.methodLink RL 107 yX6_want, Cond.instanceMethod yX6_want, Cond.selects RX6 yX6_want yX6_want, Cond.code yX6_want cX6_want 5 (some .boolean), Cond.methodLink RL 108 yX5_best, Cond.instanceMethod yX5_best, Cond.selects RX5 yX5_best yX5_best, Cond.code yX5_best cX5_best 1 (some .int), Cond.methodLink RX5 180 yX0_choose, Cond.instanceMethod yX0_choose, Cond.selects RX0 yX0_choose yX0_choose, Cond.code yX0_choose cX0_choose 6 none]
def wsL_law_r28 : List Cond := [Cond.methodLink RX0 34 Lib.Math.min.name, Cond.constantLong RX0 44 (-1), Cond.fieldLink RX0 53 "PlateRoom$CopyPlan" "bestWorth" "J", Cond.methodLink RX0 57 Lib.MathLoose.max_long.x, Cond.methodLink RX0 40 yX0_sortTurns, Cond.instanceMethod yX0_sortTurns, Cond.selects RX0 yX0_sortTurns yX0_sortTurns, Cond.code yX0_sortTurns cX0_sortTurns 4 none, Cond.methodLink RX0 46 yJ7_fill_d0a16, Cond.static yJ7_fill_d0a16, Cond.code yJ7_fill_d0a16 cJ7_fill_d0a16 5 none, Cond.methodLink RX0 49 yX0_offer, Cond.instanceMethod yX0_offer, Cond.selects RX0 yX0_offer yX0_offer, Cond.code yX0_offer cX0_offer 6 none, Cond.methodLink RX0 61 yX0_worthOf, Cond.instanceMethod yX0_worthOf, Cond.selects RX0 yX0_worthOf yX0_worthOf, Cond.code yX0_worthOf cX0_worthOf 2 (some .long), Cond.methodLink RX0 65 yX0_bitOf, Cond.static yX0_bitOf, Cond.code yX0_bitOf cX0_bitOf 1 (some .long), Cond.methodLink RX5 184 yX0_wantedTogether, Cond.instanceMethod yX0_wantedTogether]
def wsL_law_r29 : List Cond := [Cond.selects RX0 yX0_wantedTogether yX0_wantedTogether, Cond.code yX0_wantedTogether cX0_wantedTogether 1 (some .int), Cond.methodLink RL 111 yX6_best, Cond.instanceMethod yX6_best, Cond.selects RX6 yX6_best yX6_best, Cond.code yX6_best cX6_best 1 (some .int), Cond.methodLink RX6 248 yX6_chooses, Cond.instanceMethod yX6_chooses, Cond.selects RX6 yX6_chooses yX6_chooses, Cond.code yX6_chooses cX6_chooses 3 (some .int), Cond.methodLink RX6 241 yX6_orders, Cond.instanceMethod yX6_orders, Cond.selects RX6 yX6_orders yX6_orders, Cond.code yX6_orders cX6_orders 3 none, Cond.methodLink RX6 244 yX6_mostOf, Cond.instanceMethod yX6_mostOf, Cond.selects RX6 yX6_mostOf yX6_mostOf, Cond.code yX6_mostOf cX6_mostOf 5 (some .int), Cond.methodLink RL 112 yX5_hour, Cond.instanceMethod yX5_hour, Cond.selects RX5 yX5_hour yX5_hour, Cond.code yX5_hour cX5_hour 2 (some .int), Cond.methodLink RX5 187 yX0_isChosen, Cond.instanceMethod yX0_isChosen]
def wsL_law_r30 : List Cond := [Cond.selects RX0 yX0_isChosen yX0_isChosen, Cond.code yX0_isChosen cX0_isChosen 2 (some .boolean), Cond.methodLink RX5 190 yX0_beginningOf, Cond.instanceMethod yX0_beginningOf, Cond.selects RX0 yX0_beginningOf yX0_beginningOf, Cond.code yX0_beginningOf cX0_beginningOf 6 (some .int), Cond.methodLink RX0 68 yX0_isChosen, Cond.methodLink RL 115 yX6_hour, Cond.instanceMethod yX6_hour, Cond.selects RX6 yX6_hour yX6_hour, Cond.code yX6_hour cX6_hour 4 (some .int), Cond.methodLink RL 116 yX5_law, Cond.instanceMethod yX5_law, Cond.selects RX5 yX5_law yX5_law, Cond.code yX5_law cX5_law 4 (some .boolean), Cond.constant RX5 193 (50000), Cond.methodLink RX5 194 yX3_hasAllLaws, Cond.instanceMethod yX3_hasAllLaws, Cond.selects RX3 yX3_hasAllLaws yX3_hasAllLaws, Cond.code yX3_hasAllLaws cX3_hasAllLaws 1 (some .boolean), Cond.fieldLink RX3 27 "PlateRoom$RightsBook" "lawCount" "I", Cond.methodLink RX5 198 yX3_addLaw, Cond.instanceMethod yX3_addLaw, Cond.selects RX3 yX3_addLaw yX3_addLaw]
def wsL_law_r31 : List Cond := [Cond.code yX3_addLaw cX3_addLaw 3 none, Cond.methodLink RX3 34 yX3_hasAllLaws, Cond.methodLink RL 119 yX6_law, Cond.instanceMethod yX6_law, Cond.selects RX6 yX6_law yX6_law, Cond.code yX6_law cX6_law 3 (some .boolean), Cond.constant RX6 251 (50000), Cond.fieldLink RX6 252 "PlateRoomModel" "laws" "I", Cond.methodLink RL 120 yX5_death, Cond.instanceMethod yX5_death, Cond.selects RX5 yX5_death yX5_death, Cond.code yX5_death cX5_death 5 (some .boolean), Cond.methodLink RX5 201 yX3_hasAllDeaths, Cond.instanceMethod yX3_hasAllDeaths, Cond.selects RX3 yX3_hasAllDeaths yX3_hasAllDeaths, Cond.code yX3_hasAllDeaths cX3_hasAllDeaths 1 (some .boolean), Cond.fieldLink RX3 31 "PlateRoom$RightsBook" "deathCount" "I", Cond.methodLink RX5 204 yX3_addDeath, Cond.instanceMethod yX3_addDeath, Cond.selects RX3 yX3_addDeath yX3_addDeath, Cond.code yX3_addDeath cX3_addDeath 4 none, Cond.methodLink RX3 38 yX3_hasAllDeaths, Cond.methodLink RL 123 yX6_death, Cond.instanceMethod yX6_death]
def wsL_law_r32 : List Cond := [Cond.selects RX6 yX6_death yX6_death, Cond.code yX6_death cX6_death 4 (some .boolean), Cond.fieldLink RX6 255 "PlateRoomModel" "deaths" "I", Cond.methodLink RL 124 yX5_free, Cond.instanceMethod yX5_free, Cond.selects RX5 yX5_free yX5_free, Cond.code yX5_free cX5_free 5 (some .int), Cond.constant RX5 207 (200000), Cond.methodLink RX5 208 yX3_isFreeOn, Cond.instanceMethod yX3_isFreeOn, Cond.selects RX3 yX3_isFreeOn yX3_isFreeOn, Cond.code yX3_isFreeOn cX3_isFreeOn 6 (some .boolean), Cond.methodLink RX3 41 yX3_lawInForce, Cond.instanceMethod yX3_lawInForce, Cond.selects RX3 yX3_lawInForce yX3_lawInForce, Cond.code yX3_lawInForce cX3_lawInForce 4 (some .int), Cond.methodLink RX3 45 yX3_deathKnown, Cond.instanceMethod yX3_deathKnown, Cond.selects RX3 yX3_deathKnown yX3_deathKnown, Cond.code yX3_deathKnown cX3_deathKnown 6 (some .int), Cond.methodLink RL 127 yX6_free, Cond.instanceMethod yX6_free, Cond.selects RX6 yX6_free yX6_free, Cond.code yX6_free cX6_free 7 (some .int)]
def wsL_law_r33 : List Cond := [Cond.constant RX6 258 (200000)]
def wsL_law : List Cond := (wsL_law_r1 ++ (wsL_law_r2 ++ (wsL_law_r3 ++ (wsL_law_r4 ++ (wsL_law_r5 ++ (wsL_law_r6 ++ (wsL_law_r7 ++ (wsL_law_r8 ++ (wsL_law_r9 ++ (wsL_law_r10 ++ (wsL_law_r11 ++ (wsL_law_r12 ++ (wsL_law_r13 ++ (wsL_law_r14 ++ (wsL_law_r15 ++ (wsL_law_r16 ++ (wsL_law_r17 ++ (wsL_law_r18 ++ (wsL_law_r19 ++ (wsL_law_r20 ++ (wsL_law_r21 ++ (wsL_law_r22 ++ (wsL_law_r23 ++ (wsL_law_r24 ++ (wsL_law_r25 ++ (wsL_law_r26 ++ (wsL_law_r27 ++ (wsL_law_r28 ++ (wsL_law_r29 ++ (wsL_law_r30 ++ (wsL_law_r31 ++ (wsL_law_r32 ++ wsL_law_r33)))))))))))))))))))))))))))))))) ++ wsX50 ++ wsX60 ++ wsX20 ++ wsX40 ++ wsX10 ++ wsX00 ++ wsX30 ++ ([] : List Cond)
theorem inJ6 : ∀ w ∈ wsJ60, w ∈ lw_tbl := by decide +kernel
theorem inJ9 : ∀ w ∈ wsJ90, w ∈ lw_tbl := by decide +kernel
theorem inJ10 : ∀ w ∈ wsJ100, w ∈ lw_tbl := by decide +kernel
theorem inJ7 : ∀ w ∈ wsJ70, w ∈ lw_tbl := by decide +kernel
abbrev vwCl : List vw_C := [(RX0, TX0, 6), (RX1, TX1, 5), (RX2, TX2, 8), (RX3, TX3, 7), (RX4, TX4, 6), (RX5, TX5, 10), (RX6, TX6, 41)]
end
section
set_option maxRecDepth 20000 in
theorem ggX0_init_J7_fill_53178 : GoodIn wsX0_init wsJ7_fill_53178 := goodIn_r _ [14] (by decide +kernel) (by decide +kernel)
set_option maxRecDepth 20000 in
theorem gX0_init_J7_fill_53178 : GoodIn wsX0_init (va_wsS RX0 28 yJ7_fill_53178 wsJ7_fill_53178) := goodIn_app (goodIn_of _ (by decide +kernel)) ggX0_init_J7_fill_53178
theorem dX0_init_0 : decode cX0_init 0 = .ok (.aload_n 0, 1) := by decide +kernel
theorem dX0_init_1 : decode cX0_init 1 = .ok (.invokespecial 3, 3) := by decide +kernel
theorem dX0_init_4 : decode cX0_init 4 = .ok (.aload_n 0, 1) := by decide +kernel
theorem dX0_init_5 : decode cX0_init 5 = .ok (.bipush 20, 2) := by decide +kernel
theorem dX0_init_7 : decode cX0_init 7 = .ok (.newarray .int, 2) := by decide +kernel
theorem dX0_init_9 : decode cX0_init 9 = .ok (.putfield 9, 3) := by decide +kernel
theorem dX0_init_12 : decode cX0_init 12 = .ok (.aload_n 0, 1) := by decide +kernel
theorem dX0_init_13 : decode cX0_init 13 = .ok (.bipush 20, 2) := by decide +kernel
theorem dX0_init_15 : decode cX0_init 15 = .ok (.newarray .int, 2) := by decide +kernel
theorem dX0_init_17 : decode cX0_init 17 = .ok (.putfield 15, 3) := by decide +kernel
theorem dX0_init_20 : decode cX0_init 20 = .ok (.aload_n 0, 1) := by decide +kernel
theorem dX0_init_21 : decode cX0_init 21 = .ok (.bipush 20, 2) := by decide +kernel
theorem dX0_init_23 : decode cX0_init 23 = .ok (.newarray .int, 2) := by decide +kernel
theorem dX0_init_25 : decode cX0_init 25 = .ok (.putfield 18, 3) := by decide +kernel
theorem dX0_init_28 : decode cX0_init 28 = .ok (.aload_n 0, 1) := by decide +kernel
theorem dX0_init_29 : decode cX0_init 29 = .ok (.bipush 20, 2) := by decide +kernel
theorem dX0_init_31 : decode cX0_init 31 = .ok (.newarray .int, 2) := by decide +kernel
theorem dX0_init_33 : decode cX0_init 33 = .ok (.putfield 21, 3) := by decide +kernel
theorem dX0_init_36 : decode cX0_init 36 = .ok (.aload_n 0, 1) := by decide +kernel
theorem dX0_init_37 : decode cX0_init 37 = .ok (.sipush 501, 3) := by decide +kernel
theorem dX0_init_40 : decode cX0_init 40 = .ok (.newarray .long, 2) := by decide +kernel
theorem dX0_init_42 : decode cX0_init 42 = .ok (.putfield 24, 3) := by decide +kernel
theorem dX0_init_45 : decode cX0_init 45 = .ok (.aload_n 0, 1) := by decide +kernel
theorem dX0_init_46 : decode cX0_init 46 = .ok (.getfield 15, 3) := by decide +kernel
theorem dX0_init_49 : decode cX0_init 49 = .ok (.iconst 1, 1) := by decide +kernel
theorem dX0_init_50 : decode cX0_init 50 = .ok (.invokestatic 28, 3) := by decide +kernel
theorem dX0_init_53 : decode cX0_init 53 = .ok (.aload_n 0, 1) := by decide +kernel
theorem dX0_init_54 : decode cX0_init 54 = .ok (.getfield 18, 3) := by decide +kernel
theorem dX0_init_57 : decode cX0_init 57 = .ok (.sipush 500, 3) := by decide +kernel
theorem dX0_init_60 : decode cX0_init 60 = .ok (.invokestatic 28, 3) := by decide +kernel
theorem dX0_init_63 : decode cX0_init 63 = .ok (.return_, 1) := by decide +kernel
theorem dX0_setWish_0 : decode cX0_setWish 0 = .ok (.iload_n 1, 1) := by decide +kernel
theorem dX0_setWish_1 : decode cX0_setWish 1 = .ok (.ifCond .lt 9, 3) := by decide +kernel
theorem dX0_setWish_4 : decode cX0_setWish 4 = .ok (.iload_n 1, 1) := by decide +kernel
theorem dX0_setWish_5 : decode cX0_setWish 5 = .ok (.bipush 20, 2) := by decide +kernel
theorem dX0_setWish_7 : decode cX0_setWish 7 = .ok (.if_icmp .lt 4, 3) := by decide +kernel
theorem dX0_setWish_10 : decode cX0_setWish 10 = .ok (.return_, 1) := by decide +kernel
theorem dX0_setWish_11 : decode cX0_setWish 11 = .ok (.aload_n 0, 1) := by decide +kernel
theorem dX0_setWish_12 : decode cX0_setWish 12 = .ok (.getfield 9, 3) := by decide +kernel
theorem dX0_setWish_15 : decode cX0_setWish 15 = .ok (.iload_n 1, 1) := by decide +kernel
theorem dX0_setWish_16 : decode cX0_setWish 16 = .ok (.iload_n 2, 1) := by decide +kernel
theorem dX0_setWish_17 : decode cX0_setWish 17 = .ok (.iastore, 1) := by decide +kernel
theorem dX0_setWish_18 : decode cX0_setWish 18 = .ok (.aload_n 0, 1) := by decide +kernel
theorem dX0_setWish_19 : decode cX0_setWish 19 = .ok (.getfield 15, 3) := by decide +kernel
theorem dX0_setWish_22 : decode cX0_setWish 22 = .ok (.iload_n 1, 1) := by decide +kernel
theorem dX0_setWish_23 : decode cX0_setWish 23 = .ok (.iload_n 3, 1) := by decide +kernel
theorem dX0_setWish_24 : decode cX0_setWish 24 = .ok (.iastore, 1) := by decide +kernel
theorem dX0_setWish_25 : decode cX0_setWish 25 = .ok (.aload_n 0, 1) := by decide +kernel
theorem dX0_setWish_26 : decode cX0_setWish 26 = .ok (.getfield 18, 3) := by decide +kernel
theorem dX0_setWish_29 : decode cX0_setWish 29 = .ok (.iload_n 1, 1) := by decide +kernel
theorem dX0_setWish_30 : decode cX0_setWish 30 = .ok (.iload 4, 2) := by decide +kernel
theorem dX0_setWish_32 : decode cX0_setWish 32 = .ok (.iastore, 1) := by decide +kernel
theorem dX0_setWish_33 : decode cX0_setWish 33 = .ok (.return_, 1) := by decide +kernel
set_option maxRecDepth 20000 in
theorem ggX0_choose_X0_sortTurns : GoodIn wsX0_choose wsX0_sortTurns := goodIn_r _ [18, 9, 7, 35, 36, 37, 38, 39, 40] (by decide +kernel) (by decide +kernel)
set_option maxRecDepth 20000 in
theorem gX0_choose_X0_sortTurns : GoodIn wsX0_choose (wsV RX0 40 RX0 yX0_sortTurns wsX0_sortTurns) := goodIn_app (goodIn_of _ (by decide +kernel)) ggX0_choose_X0_sortTurns
set_option maxRecDepth 20000 in
theorem ggX0_choose_J7_fill_d0a16 : GoodIn wsX0_choose wsJ7_fill_d0a16 := goodIn_r _ [22] (by decide +kernel) (by decide +kernel)
set_option maxRecDepth 20000 in
theorem gX0_choose_J7_fill_d0a16 : GoodIn wsX0_choose (va_wsS RX0 46 yJ7_fill_d0a16 wsJ7_fill_d0a16) := goodIn_app (goodIn_of _ (by decide +kernel)) ggX0_choose_J7_fill_d0a16
set_option maxRecDepth 20000 in
theorem ggX0_choose_X0_offer : GoodIn wsX0_choose wsX0_offer := goodIn_r _ [26, 1, 2, 3, 4, 8, 5, 6, 11, 12, 13, 27, 28, 29, 17, 30, 31, 32, 33, 34, 35, 36, 37, 38, 39, 40] (by decide +kernel) (by decide +kernel)
set_option maxRecDepth 20000 in
theorem gX0_choose_X0_offer : GoodIn wsX0_choose (wsV RX0 49 RX0 yX0_offer wsX0_offer) := goodIn_app (goodIn_of _ (by decide +kernel)) ggX0_choose_X0_offer
theorem dX0_choose_0 : decode cX0_choose 0 = .ok (.iload_n 1, 1) := by decide +kernel
theorem dX0_choose_1 : decode cX0_choose 1 = .ok (.bipush 20, 2) := by decide +kernel
theorem dX0_choose_3 : decode cX0_choose 3 = .ok (.invokestatic 34, 3) := by decide +kernel
theorem dX0_choose_6 : decode cX0_choose 6 = .ok (.istore_n 2, 1) := by decide +kernel
theorem dX0_choose_7 : decode cX0_choose 7 = .ok (.aload_n 0, 1) := by decide +kernel
theorem dX0_choose_8 : decode cX0_choose 8 = .ok (.iload_n 2, 1) := by decide +kernel
theorem dX0_choose_9 : decode cX0_choose 9 = .ok (.invokevirtual 40, 3) := by decide +kernel
theorem dX0_choose_12 : decode cX0_choose 12 = .ok (.aload_n 0, 1) := by decide +kernel
theorem dX0_choose_13 : decode cX0_choose 13 = .ok (.getfield 24, 3) := by decide +kernel
theorem dX0_choose_16 : decode cX0_choose 16 = .ok (.ldc2_w 44, 3) := by decide +kernel
theorem dX0_choose_19 : decode cX0_choose 19 = .ok (.invokestatic 46, 3) := by decide +kernel
theorem dX0_choose_22 : decode cX0_choose 22 = .ok (.aload_n 0, 1) := by decide +kernel
theorem dX0_choose_23 : decode cX0_choose 23 = .ok (.getfield 24, 3) := by decide +kernel
theorem dX0_choose_26 : decode cX0_choose 26 = .ok (.iconst 0, 1) := by decide +kernel
theorem dX0_choose_27 : decode cX0_choose 27 = .ok (.lconst 0, 1) := by decide +kernel
theorem dX0_choose_28 : decode cX0_choose 28 = .ok (.lastore, 1) := by decide +kernel
theorem dX0_choose_29 : decode cX0_choose 29 = .ok (.iconst 0, 1) := by decide +kernel
theorem dX0_choose_30 : decode cX0_choose 30 = .ok (.istore_n 3, 1) := by decide +kernel
theorem dX0_choose_31 : decode cX0_choose 31 = .ok (.iconst 0, 1) := by decide +kernel
theorem dX0_choose_32 : decode cX0_choose 32 = .ok (.istore 4, 2) := by decide +kernel
theorem dX0_choose_34 : decode cX0_choose 34 = .ok (.iload 4, 2) := by decide +kernel
theorem dX0_choose_36 : decode cX0_choose 36 = .ok (.iload_n 2, 1) := by decide +kernel
theorem dX0_choose_37 : decode cX0_choose 37 = .ok (.if_icmp .ge 45, 3) := by decide +kernel
theorem dX0_choose_40 : decode cX0_choose 40 = .ok (.aload_n 0, 1) := by decide +kernel
theorem dX0_choose_41 : decode cX0_choose 41 = .ok (.getfield 21, 3) := by decide +kernel
theorem dX0_choose_44 : decode cX0_choose 44 = .ok (.iload 4, 2) := by decide +kernel
theorem dX0_choose_46 : decode cX0_choose 46 = .ok (.iaload, 1) := by decide +kernel
theorem dX0_choose_47 : decode cX0_choose 47 = .ok (.istore 5, 2) := by decide +kernel
theorem dX0_choose_49 : decode cX0_choose 49 = .ok (.iload_n 3, 1) := by decide +kernel
theorem dX0_choose_50 : decode cX0_choose 50 = .ok (.aload_n 0, 1) := by decide +kernel
theorem dX0_choose_51 : decode cX0_choose 51 = .ok (.getfield 15, 3) := by decide +kernel
theorem dX0_choose_54 : decode cX0_choose 54 = .ok (.iload 5, 2) := by decide +kernel
theorem dX0_choose_56 : decode cX0_choose 56 = .ok (.iaload, 1) := by decide +kernel
theorem dX0_choose_57 : decode cX0_choose 57 = .ok (.iadd, 1) := by decide +kernel
theorem dX0_choose_58 : decode cX0_choose 58 = .ok (.istore_n 3, 1) := by decide +kernel
theorem dX0_choose_59 : decode cX0_choose 59 = .ok (.aload_n 0, 1) := by decide +kernel
theorem dX0_choose_60 : decode cX0_choose 60 = .ok (.iload 5, 2) := by decide +kernel
theorem dX0_choose_62 : decode cX0_choose 62 = .ok (.iload_n 3, 1) := by decide +kernel
theorem dX0_choose_63 : decode cX0_choose 63 = .ok (.aload_n 0, 1) := by decide +kernel
theorem dX0_choose_64 : decode cX0_choose 64 = .ok (.getfield 18, 3) := by decide +kernel
theorem dX0_choose_67 : decode cX0_choose 67 = .ok (.iload 5, 2) := by decide +kernel
theorem dX0_choose_69 : decode cX0_choose 69 = .ok (.iaload, 1) := by decide +kernel
theorem dX0_choose_70 : decode cX0_choose 70 = .ok (.invokestatic 34, 3) := by decide +kernel
theorem dX0_choose_73 : decode cX0_choose 73 = .ok (.invokevirtual 49, 3) := by decide +kernel
theorem dX0_choose_76 : decode cX0_choose 76 = .ok (.iinc 4 1, 3) := by decide +kernel
theorem dX0_choose_79 : decode cX0_choose 79 = .ok (.goto (-45), 3) := by decide +kernel
theorem dX0_choose_82 : decode cX0_choose 82 = .ok (.aload_n 0, 1) := by decide +kernel
theorem dX0_choose_83 : decode cX0_choose 83 = .ok (.lconst 0, 1) := by decide +kernel
theorem dX0_choose_84 : decode cX0_choose 84 = .ok (.putfield 53, 3) := by decide +kernel
theorem dX0_choose_87 : decode cX0_choose 87 = .ok (.iconst 0, 1) := by decide +kernel
theorem dX0_choose_88 : decode cX0_choose 88 = .ok (.istore 4, 2) := by decide +kernel
theorem dX0_choose_90 : decode cX0_choose 90 = .ok (.iload 4, 2) := by decide +kernel
theorem dX0_choose_92 : decode cX0_choose 92 = .ok (.sipush 500, 3) := by decide +kernel
theorem dX0_choose_95 : decode cX0_choose 95 = .ok (.if_icmp .gt 27, 3) := by decide +kernel
theorem dX0_choose_98 : decode cX0_choose 98 = .ok (.aload_n 0, 1) := by decide +kernel
theorem dX0_choose_99 : decode cX0_choose 99 = .ok (.aload_n 0, 1) := by decide +kernel
theorem dX0_choose_100 : decode cX0_choose 100 = .ok (.getfield 53, 3) := by decide +kernel
theorem dX0_choose_103 : decode cX0_choose 103 = .ok (.aload_n 0, 1) := by decide +kernel
theorem dX0_choose_104 : decode cX0_choose 104 = .ok (.getfield 24, 3) := by decide +kernel
theorem dX0_choose_107 : decode cX0_choose 107 = .ok (.iload 4, 2) := by decide +kernel
theorem dX0_choose_109 : decode cX0_choose 109 = .ok (.laload, 1) := by decide +kernel
theorem dX0_choose_110 : decode cX0_choose 110 = .ok (.invokestatic 57, 3) := by decide +kernel
theorem dX0_choose_113 : decode cX0_choose 113 = .ok (.putfield 53, 3) := by decide +kernel
theorem dX0_choose_116 : decode cX0_choose 116 = .ok (.iinc 4 1, 3) := by decide +kernel
theorem dX0_choose_119 : decode cX0_choose 119 = .ok (.goto (-29), 3) := by decide +kernel
theorem dX0_choose_122 : decode cX0_choose 122 = .ok (.return_, 1) := by decide +kernel
set_option maxRecDepth 20000 in
theorem ggX0_offer_X0_worthOf : GoodIn wsX0_offer wsX0_worthOf := goodIn_r _ [15, 16, 17, 18, 14, 19, 20, 21, 22, 23, 24, 25] (by decide +kernel) (by decide +kernel)
set_option maxRecDepth 20000 in
theorem gX0_offer_X0_worthOf : GoodIn wsX0_offer (wsV RX0 61 RX0 yX0_worthOf wsX0_worthOf) := goodIn_app (goodIn_of _ (by decide +kernel)) ggX0_offer_X0_worthOf
theorem dX0_offer_0 : decode cX0_offer 0 = .ok (.iload_n 2, 1) := by decide +kernel
theorem dX0_offer_1 : decode cX0_offer 1 = .ok (.sipush 500, 3) := by decide +kernel
theorem dX0_offer_4 : decode cX0_offer 4 = .ok (.invokestatic 34, 3) := by decide +kernel
theorem dX0_offer_7 : decode cX0_offer 7 = .ok (.istore_n 3, 1) := by decide +kernel
theorem dX0_offer_8 : decode cX0_offer 8 = .ok (.iload_n 3, 1) := by decide +kernel
theorem dX0_offer_9 : decode cX0_offer 9 = .ok (.aload_n 0, 1) := by decide +kernel
theorem dX0_offer_10 : decode cX0_offer 10 = .ok (.getfield 15, 3) := by decide +kernel
theorem dX0_offer_13 : decode cX0_offer 13 = .ok (.iload_n 1, 1) := by decide +kernel
theorem dX0_offer_14 : decode cX0_offer 14 = .ok (.iaload, 1) := by decide +kernel
theorem dX0_offer_15 : decode cX0_offer 15 = .ok (.if_icmp .lt 56, 3) := by decide +kernel
theorem dX0_offer_18 : decode cX0_offer 18 = .ok (.aload_n 0, 1) := by decide +kernel
theorem dX0_offer_19 : decode cX0_offer 19 = .ok (.getfield 24, 3) := by decide +kernel
theorem dX0_offer_22 : decode cX0_offer 22 = .ok (.iload_n 3, 1) := by decide +kernel
theorem dX0_offer_23 : decode cX0_offer 23 = .ok (.aload_n 0, 1) := by decide +kernel
theorem dX0_offer_24 : decode cX0_offer 24 = .ok (.getfield 15, 3) := by decide +kernel
theorem dX0_offer_27 : decode cX0_offer 27 = .ok (.iload_n 1, 1) := by decide +kernel
theorem dX0_offer_28 : decode cX0_offer 28 = .ok (.iaload, 1) := by decide +kernel
theorem dX0_offer_29 : decode cX0_offer 29 = .ok (.isub, 1) := by decide +kernel
theorem dX0_offer_30 : decode cX0_offer 30 = .ok (.laload, 1) := by decide +kernel
theorem dX0_offer_31 : decode cX0_offer 31 = .ok (.lstore 4, 2) := by decide +kernel
theorem dX0_offer_33 : decode cX0_offer 33 = .ok (.lload 4, 2) := by decide +kernel
theorem dX0_offer_35 : decode cX0_offer 35 = .ok (.ldc2_w 44, 3) := by decide +kernel
theorem dX0_offer_38 : decode cX0_offer 38 = .ok (.lcmp, 1) := by decide +kernel
theorem dX0_offer_39 : decode cX0_offer 39 = .ok (.ifCond .eq 26, 3) := by decide +kernel
theorem dX0_offer_42 : decode cX0_offer 42 = .ok (.aload_n 0, 1) := by decide +kernel
theorem dX0_offer_43 : decode cX0_offer 43 = .ok (.getfield 24, 3) := by decide +kernel
theorem dX0_offer_46 : decode cX0_offer 46 = .ok (.iload_n 3, 1) := by decide +kernel
theorem dX0_offer_47 : decode cX0_offer 47 = .ok (.aload_n 0, 1) := by decide +kernel
theorem dX0_offer_48 : decode cX0_offer 48 = .ok (.getfield 24, 3) := by decide +kernel
theorem dX0_offer_51 : decode cX0_offer 51 = .ok (.iload_n 3, 1) := by decide +kernel
theorem dX0_offer_52 : decode cX0_offer 52 = .ok (.laload, 1) := by decide +kernel
theorem dX0_offer_53 : decode cX0_offer 53 = .ok (.lload 4, 2) := by decide +kernel
theorem dX0_offer_55 : decode cX0_offer 55 = .ok (.aload_n 0, 1) := by decide +kernel
theorem dX0_offer_56 : decode cX0_offer 56 = .ok (.iload_n 1, 1) := by decide +kernel
theorem dX0_offer_57 : decode cX0_offer 57 = .ok (.invokevirtual 61, 3) := by decide +kernel
theorem dX0_offer_60 : decode cX0_offer 60 = .ok (.ladd, 1) := by decide +kernel
theorem dX0_offer_61 : decode cX0_offer 61 = .ok (.invokestatic 57, 3) := by decide +kernel
theorem dX0_offer_64 : decode cX0_offer 64 = .ok (.lastore, 1) := by decide +kernel
theorem dX0_offer_65 : decode cX0_offer 65 = .ok (.iinc 3 (-1), 3) := by decide +kernel
theorem dX0_offer_68 : decode cX0_offer 68 = .ok (.goto (-60), 3) := by decide +kernel
theorem dX0_offer_71 : decode cX0_offer 71 = .ok (.return_, 1) := by decide +kernel
set_option maxRecDepth 20000 in
theorem ggX0_worthOf_X0_bitOf : GoodIn wsX0_worthOf wsX0_bitOf := goodIn_r _ [5] (by decide +kernel) (by decide +kernel)
set_option maxRecDepth 20000 in
theorem gX0_worthOf_X0_bitOf : GoodIn wsX0_worthOf (va_wsS RX0 65 yX0_bitOf wsX0_bitOf) := goodIn_app (goodIn_of _ (by decide +kernel)) ggX0_worthOf_X0_bitOf
theorem dX0_worthOf_0 : decode cX0_worthOf 0 = .ok (.aload_n 0, 1) := by decide +kernel
theorem dX0_worthOf_1 : decode cX0_worthOf 1 = .ok (.getfield 9, 3) := by decide +kernel
theorem dX0_worthOf_4 : decode cX0_worthOf 4 = .ok (.iload_n 1, 1) := by decide +kernel
theorem dX0_worthOf_5 : decode cX0_worthOf 5 = .ok (.iaload, 1) := by decide +kernel
theorem dX0_worthOf_6 : decode cX0_worthOf 6 = .ok (.i2l, 1) := by decide +kernel
theorem dX0_worthOf_7 : decode cX0_worthOf 7 = .ok (.bipush 20, 2) := by decide +kernel
theorem dX0_worthOf_9 : decode cX0_worthOf 9 = .ok (.lshl, 1) := by decide +kernel
theorem dX0_worthOf_10 : decode cX0_worthOf 10 = .ok (.iload_n 1, 1) := by decide +kernel
theorem dX0_worthOf_11 : decode cX0_worthOf 11 = .ok (.invokestatic 65, 3) := by decide +kernel
theorem dX0_worthOf_14 : decode cX0_worthOf 14 = .ok (.ladd, 1) := by decide +kernel
theorem dX0_worthOf_15 : decode cX0_worthOf 15 = .ok (.lreturn, 1) := by decide +kernel
theorem dX0_bitOf_0 : decode cX0_bitOf 0 = .ok (.lconst 1, 1) := by decide +kernel
theorem dX0_bitOf_1 : decode cX0_bitOf 1 = .ok (.bipush 19, 2) := by decide +kernel
theorem dX0_bitOf_3 : decode cX0_bitOf 3 = .ok (.iload_n 0, 1) := by decide +kernel
theorem dX0_bitOf_4 : decode cX0_bitOf 4 = .ok (.isub, 1) := by decide +kernel
theorem dX0_bitOf_5 : decode cX0_bitOf 5 = .ok (.lshl, 1) := by decide +kernel
theorem dX0_bitOf_6 : decode cX0_bitOf 6 = .ok (.lreturn, 1) := by decide +kernel
theorem dX0_sortTurns_0 : decode cX0_sortTurns 0 = .ok (.iconst 0, 1) := by decide +kernel
theorem dX0_sortTurns_1 : decode cX0_sortTurns 1 = .ok (.istore_n 2, 1) := by decide +kernel
theorem dX0_sortTurns_2 : decode cX0_sortTurns 2 = .ok (.iload_n 2, 1) := by decide +kernel
theorem dX0_sortTurns_3 : decode cX0_sortTurns 3 = .ok (.iload_n 1, 1) := by decide +kernel
theorem dX0_sortTurns_4 : decode cX0_sortTurns 4 = .ok (.if_icmp .ge 64, 3) := by decide +kernel
theorem dX0_sortTurns_7 : decode cX0_sortTurns 7 = .ok (.iload_n 2, 1) := by decide +kernel
theorem dX0_sortTurns_8 : decode cX0_sortTurns 8 = .ok (.istore_n 3, 1) := by decide +kernel
theorem dX0_sortTurns_9 : decode cX0_sortTurns 9 = .ok (.iload_n 3, 1) := by decide +kernel
theorem dX0_sortTurns_10 : decode cX0_sortTurns 10 = .ok (.ifCond .le 45, 3) := by decide +kernel
theorem dX0_sortTurns_13 : decode cX0_sortTurns 13 = .ok (.aload_n 0, 1) := by decide +kernel
theorem dX0_sortTurns_14 : decode cX0_sortTurns 14 = .ok (.getfield 18, 3) := by decide +kernel
theorem dX0_sortTurns_17 : decode cX0_sortTurns 17 = .ok (.aload_n 0, 1) := by decide +kernel
theorem dX0_sortTurns_18 : decode cX0_sortTurns 18 = .ok (.getfield 21, 3) := by decide +kernel
theorem dX0_sortTurns_21 : decode cX0_sortTurns 21 = .ok (.iload_n 3, 1) := by decide +kernel
theorem dX0_sortTurns_22 : decode cX0_sortTurns 22 = .ok (.iconst 1, 1) := by decide +kernel
theorem dX0_sortTurns_23 : decode cX0_sortTurns 23 = .ok (.isub, 1) := by decide +kernel
theorem dX0_sortTurns_24 : decode cX0_sortTurns 24 = .ok (.iaload, 1) := by decide +kernel
theorem dX0_sortTurns_25 : decode cX0_sortTurns 25 = .ok (.iaload, 1) := by decide +kernel
theorem dX0_sortTurns_26 : decode cX0_sortTurns 26 = .ok (.aload_n 0, 1) := by decide +kernel
theorem dX0_sortTurns_27 : decode cX0_sortTurns 27 = .ok (.getfield 18, 3) := by decide +kernel
theorem dX0_sortTurns_30 : decode cX0_sortTurns 30 = .ok (.iload_n 2, 1) := by decide +kernel
theorem dX0_sortTurns_31 : decode cX0_sortTurns 31 = .ok (.iaload, 1) := by decide +kernel
theorem dX0_sortTurns_32 : decode cX0_sortTurns 32 = .ok (.if_icmp .le 23, 3) := by decide +kernel
theorem dX0_sortTurns_35 : decode cX0_sortTurns 35 = .ok (.aload_n 0, 1) := by decide +kernel
theorem dX0_sortTurns_36 : decode cX0_sortTurns 36 = .ok (.getfield 21, 3) := by decide +kernel
theorem dX0_sortTurns_39 : decode cX0_sortTurns 39 = .ok (.iload_n 3, 1) := by decide +kernel
theorem dX0_sortTurns_40 : decode cX0_sortTurns 40 = .ok (.aload_n 0, 1) := by decide +kernel
theorem dX0_sortTurns_41 : decode cX0_sortTurns 41 = .ok (.getfield 21, 3) := by decide +kernel
theorem dX0_sortTurns_44 : decode cX0_sortTurns 44 = .ok (.iload_n 3, 1) := by decide +kernel
theorem dX0_sortTurns_45 : decode cX0_sortTurns 45 = .ok (.iconst 1, 1) := by decide +kernel
theorem dX0_sortTurns_46 : decode cX0_sortTurns 46 = .ok (.isub, 1) := by decide +kernel
theorem dX0_sortTurns_47 : decode cX0_sortTurns 47 = .ok (.iaload, 1) := by decide +kernel
theorem dX0_sortTurns_48 : decode cX0_sortTurns 48 = .ok (.iastore, 1) := by decide +kernel
theorem dX0_sortTurns_49 : decode cX0_sortTurns 49 = .ok (.iinc 3 (-1), 3) := by decide +kernel
theorem dX0_sortTurns_52 : decode cX0_sortTurns 52 = .ok (.goto (-43), 3) := by decide +kernel
theorem dX0_sortTurns_55 : decode cX0_sortTurns 55 = .ok (.aload_n 0, 1) := by decide +kernel
theorem dX0_sortTurns_56 : decode cX0_sortTurns 56 = .ok (.getfield 21, 3) := by decide +kernel
theorem dX0_sortTurns_59 : decode cX0_sortTurns 59 = .ok (.iload_n 3, 1) := by decide +kernel
theorem dX0_sortTurns_60 : decode cX0_sortTurns 60 = .ok (.iload_n 2, 1) := by decide +kernel
theorem dX0_sortTurns_61 : decode cX0_sortTurns 61 = .ok (.iastore, 1) := by decide +kernel
theorem dX0_sortTurns_62 : decode cX0_sortTurns 62 = .ok (.iinc 2 1, 3) := by decide +kernel
theorem dX0_sortTurns_65 : decode cX0_sortTurns 65 = .ok (.goto (-63), 3) := by decide +kernel
theorem dX0_sortTurns_68 : decode cX0_sortTurns 68 = .ok (.return_, 1) := by decide +kernel
theorem dX0_wantedTogether_0 : decode cX0_wantedTogether 0 = .ok (.aload_n 0, 1) := by decide +kernel
theorem dX0_wantedTogether_1 : decode cX0_wantedTogether 1 = .ok (.getfield 53, 3) := by decide +kernel
theorem dX0_wantedTogether_4 : decode cX0_wantedTogether 4 = .ok (.bipush 20, 2) := by decide +kernel
theorem dX0_wantedTogether_6 : decode cX0_wantedTogether 6 = .ok (.lshr, 1) := by decide +kernel
theorem dX0_wantedTogether_7 : decode cX0_wantedTogether 7 = .ok (.l2i, 1) := by decide +kernel
theorem dX0_wantedTogether_8 : decode cX0_wantedTogether 8 = .ok (.ireturn, 1) := by decide +kernel
set_option maxRecDepth 20000 in
theorem ggX0_isChosen_X0_bitOf : GoodIn wsX0_isChosen wsX0_bitOf := goodIn_r _ [5] (by decide +kernel) (by decide +kernel)
set_option maxRecDepth 20000 in
theorem gX0_isChosen_X0_bitOf : GoodIn wsX0_isChosen (va_wsS RX0 65 yX0_bitOf wsX0_bitOf) := goodIn_app (goodIn_of _ (by decide +kernel)) ggX0_isChosen_X0_bitOf
theorem dX0_isChosen_0 : decode cX0_isChosen 0 = .ok (.iload_n 1, 1) := by decide +kernel
theorem dX0_isChosen_1 : decode cX0_isChosen 1 = .ok (.ifCond .lt 27, 3) := by decide +kernel
theorem dX0_isChosen_4 : decode cX0_isChosen 4 = .ok (.iload_n 1, 1) := by decide +kernel
theorem dX0_isChosen_5 : decode cX0_isChosen 5 = .ok (.bipush 20, 2) := by decide +kernel
theorem dX0_isChosen_7 : decode cX0_isChosen 7 = .ok (.if_icmp .ge 21, 3) := by decide +kernel
theorem dX0_isChosen_10 : decode cX0_isChosen 10 = .ok (.aload_n 0, 1) := by decide +kernel
theorem dX0_isChosen_11 : decode cX0_isChosen 11 = .ok (.getfield 53, 3) := by decide +kernel
theorem dX0_isChosen_14 : decode cX0_isChosen 14 = .ok (.iload_n 1, 1) := by decide +kernel
theorem dX0_isChosen_15 : decode cX0_isChosen 15 = .ok (.invokestatic 65, 3) := by decide +kernel
theorem dX0_isChosen_18 : decode cX0_isChosen 18 = .ok (.land, 1) := by decide +kernel
theorem dX0_isChosen_19 : decode cX0_isChosen 19 = .ok (.lconst 0, 1) := by decide +kernel
theorem dX0_isChosen_20 : decode cX0_isChosen 20 = .ok (.lcmp, 1) := by decide +kernel
theorem dX0_isChosen_21 : decode cX0_isChosen 21 = .ok (.ifCond .eq 7, 3) := by decide +kernel
theorem dX0_isChosen_24 : decode cX0_isChosen 24 = .ok (.iconst 1, 1) := by decide +kernel
theorem dX0_isChosen_25 : decode cX0_isChosen 25 = .ok (.goto 4, 3) := by decide +kernel
theorem dX0_isChosen_28 : decode cX0_isChosen 28 = .ok (.iconst 0, 1) := by decide +kernel
theorem dX0_isChosen_29 : decode cX0_isChosen 29 = .ok (.ireturn, 1) := by decide +kernel
set_option maxRecDepth 20000 in
theorem ggX0_beginningOf_X0_isChosen : GoodIn wsX0_beginningOf wsX0_isChosen := goodIn_r _ [7, 8, 9, 10, 6, 11, 12, 13, 14, 15, 16, 17] (by decide +kernel) (by decide +kernel)
set_option maxRecDepth 20000 in
theorem gX0_beginningOf_X0_isChosen : GoodIn wsX0_beginningOf (wsV RX0 68 RX0 yX0_isChosen wsX0_isChosen) := goodIn_app (goodIn_of _ (by decide +kernel)) ggX0_beginningOf_X0_isChosen
theorem dX0_beginningOf_0 : decode cX0_beginningOf 0 = .ok (.iconst 0, 1) := by decide +kernel
theorem dX0_beginningOf_1 : decode cX0_beginningOf 1 = .ok (.istore_n 3, 1) := by decide +kernel
theorem dX0_beginningOf_2 : decode cX0_beginningOf 2 = .ok (.iconst 0, 1) := by decide +kernel
theorem dX0_beginningOf_3 : decode cX0_beginningOf 3 = .ok (.istore 4, 2) := by decide +kernel
theorem dX0_beginningOf_5 : decode cX0_beginningOf 5 = .ok (.iload 4, 2) := by decide +kernel
theorem dX0_beginningOf_7 : decode cX0_beginningOf 7 = .ok (.iload_n 2, 1) := by decide +kernel
theorem dX0_beginningOf_8 : decode cX0_beginningOf 8 = .ok (.if_icmp .ge 52, 3) := by decide +kernel
theorem dX0_beginningOf_11 : decode cX0_beginningOf 11 = .ok (.iload 4, 2) := by decide +kernel
theorem dX0_beginningOf_13 : decode cX0_beginningOf 13 = .ok (.bipush 20, 2) := by decide +kernel
theorem dX0_beginningOf_15 : decode cX0_beginningOf 15 = .ok (.if_icmp .ge 45, 3) := by decide +kernel
theorem dX0_beginningOf_18 : decode cX0_beginningOf 18 = .ok (.aload_n 0, 1) := by decide +kernel
theorem dX0_beginningOf_19 : decode cX0_beginningOf 19 = .ok (.getfield 21, 3) := by decide +kernel
theorem dX0_beginningOf_22 : decode cX0_beginningOf 22 = .ok (.iload 4, 2) := by decide +kernel
theorem dX0_beginningOf_24 : decode cX0_beginningOf 24 = .ok (.iaload, 1) := by decide +kernel
theorem dX0_beginningOf_25 : decode cX0_beginningOf 25 = .ok (.istore 5, 2) := by decide +kernel
theorem dX0_beginningOf_27 : decode cX0_beginningOf 27 = .ok (.iload 5, 2) := by decide +kernel
theorem dX0_beginningOf_29 : decode cX0_beginningOf 29 = .ok (.iload_n 1, 1) := by decide +kernel
theorem dX0_beginningOf_30 : decode cX0_beginningOf 30 = .ok (.if_icmp .ne 5, 3) := by decide +kernel
theorem dX0_beginningOf_33 : decode cX0_beginningOf 33 = .ok (.iload_n 3, 1) := by decide +kernel
theorem dX0_beginningOf_34 : decode cX0_beginningOf 34 = .ok (.ireturn, 1) := by decide +kernel
theorem dX0_beginningOf_35 : decode cX0_beginningOf 35 = .ok (.aload_n 0, 1) := by decide +kernel
theorem dX0_beginningOf_36 : decode cX0_beginningOf 36 = .ok (.iload 5, 2) := by decide +kernel
theorem dX0_beginningOf_38 : decode cX0_beginningOf 38 = .ok (.invokevirtual 68, 3) := by decide +kernel
theorem dX0_beginningOf_41 : decode cX0_beginningOf 41 = .ok (.ifCond .eq 13, 3) := by decide +kernel
theorem dX0_beginningOf_44 : decode cX0_beginningOf 44 = .ok (.iload_n 3, 1) := by decide +kernel
theorem dX0_beginningOf_45 : decode cX0_beginningOf 45 = .ok (.aload_n 0, 1) := by decide +kernel
theorem dX0_beginningOf_46 : decode cX0_beginningOf 46 = .ok (.getfield 15, 3) := by decide +kernel
theorem dX0_beginningOf_49 : decode cX0_beginningOf 49 = .ok (.iload 5, 2) := by decide +kernel
theorem dX0_beginningOf_51 : decode cX0_beginningOf 51 = .ok (.iaload, 1) := by decide +kernel
theorem dX0_beginningOf_52 : decode cX0_beginningOf 52 = .ok (.iadd, 1) := by decide +kernel
theorem dX0_beginningOf_53 : decode cX0_beginningOf 53 = .ok (.istore_n 3, 1) := by decide +kernel
theorem dX0_beginningOf_54 : decode cX0_beginningOf 54 = .ok (.iinc 4 1, 3) := by decide +kernel
theorem dX0_beginningOf_57 : decode cX0_beginningOf 57 = .ok (.goto (-52), 3) := by decide +kernel
theorem dX0_beginningOf_60 : decode cX0_beginningOf 60 = .ok (.iload_n 3, 1) := by decide +kernel
theorem dX0_beginningOf_61 : decode cX0_beginningOf 61 = .ok (.ireturn, 1) := by decide +kernel
set_option maxRecDepth 20000 in
theorem ggX1_init_X1_compare : GoodIn wsX1_init wsX1_compare := goodIn_r _ [14, 7, 8, 9, 5, 6, 15, 16, 13, 17, 18, 19, 20, 21, 22] (by decide +kernel) (by decide +kernel)
set_option maxRecDepth 20000 in
theorem gX1_init_X1_compare : GoodIn wsX1_init (wsV RX1 27 RX1 yX1_compare wsX1_compare) := goodIn_app (goodIn_of _ (by decide +kernel)) ggX1_init_X1_compare
theorem dX1_init_0 : decode cX1_init 0 = .ok (.aload_n 0, 1) := by decide +kernel
theorem dX1_init_1 : decode cX1_init 1 = .ok (.invokespecial 3, 3) := by decide +kernel
theorem dX1_init_4 : decode cX1_init 4 = .ok (.aload_n 0, 1) := by decide +kernel
theorem dX1_init_5 : decode cX1_init 5 = .ok (.bipush 20, 2) := by decide +kernel
theorem dX1_init_7 : decode cX1_init 7 = .ok (.newarray .int, 2) := by decide +kernel
theorem dX1_init_9 : decode cX1_init 9 = .ok (.putfield 9, 3) := by decide +kernel
theorem dX1_init_12 : decode cX1_init 12 = .ok (.aload_n 0, 1) := by decide +kernel
theorem dX1_init_13 : decode cX1_init 13 = .ok (.bipush 20, 2) := by decide +kernel
theorem dX1_init_15 : decode cX1_init 15 = .ok (.newarray .int, 2) := by decide +kernel
theorem dX1_init_17 : decode cX1_init 17 = .ok (.putfield 15, 3) := by decide +kernel
theorem dX1_init_20 : decode cX1_init 20 = .ok (.aload_n 0, 1) := by decide +kernel
theorem dX1_init_21 : decode cX1_init 21 = .ok (.bipush 20, 2) := by decide +kernel
theorem dX1_init_23 : decode cX1_init 23 = .ok (.newarray .int, 2) := by decide +kernel
theorem dX1_init_25 : decode cX1_init 25 = .ok (.putfield 18, 3) := by decide +kernel
theorem dX1_init_28 : decode cX1_init 28 = .ok (.aload_n 0, 1) := by decide +kernel
theorem dX1_init_29 : decode cX1_init 29 = .ok (.bipush 20, 2) := by decide +kernel
theorem dX1_init_31 : decode cX1_init 31 = .ok (.newarray .int, 2) := by decide +kernel
theorem dX1_init_33 : decode cX1_init 33 = .ok (.putfield 21, 3) := by decide +kernel
theorem dX1_init_36 : decode cX1_init 36 = .ok (.aload_n 0, 1) := by decide +kernel
theorem dX1_init_37 : decode cX1_init 37 = .ok (.bipush 20, 2) := by decide +kernel
theorem dX1_init_39 : decode cX1_init 39 = .ok (.newarray .int, 2) := by decide +kernel
theorem dX1_init_41 : decode cX1_init 41 = .ok (.putfield 24, 3) := by decide +kernel
theorem dX1_init_44 : decode cX1_init 44 = .ok (.iconst 0, 1) := by decide +kernel
theorem dX1_init_45 : decode cX1_init 45 = .ok (.istore_n 1, 1) := by decide +kernel
theorem dX1_init_46 : decode cX1_init 46 = .ok (.iload_n 1, 1) := by decide +kernel
theorem dX1_init_47 : decode cX1_init 47 = .ok (.bipush 20, 2) := by decide +kernel
theorem dX1_init_49 : decode cX1_init 49 = .ok (.if_icmp .ge 14, 3) := by decide +kernel
theorem dX1_init_52 : decode cX1_init 52 = .ok (.aload_n 0, 1) := by decide +kernel
theorem dX1_init_53 : decode cX1_init 53 = .ok (.iload_n 1, 1) := by decide +kernel
theorem dX1_init_54 : decode cX1_init 54 = .ok (.invokevirtual 27, 3) := by decide +kernel
theorem dX1_init_57 : decode cX1_init 57 = .ok (.iinc 1 1, 3) := by decide +kernel
theorem dX1_init_60 : decode cX1_init 60 = .ok (.goto (-14), 3) := by decide +kernel
theorem dX1_init_63 : decode cX1_init 63 = .ok (.return_, 1) := by decide +kernel
set_option maxRecDepth 20000 in
theorem ggX1_setEdges_X1_compare : GoodIn wsX1_setEdges wsX1_compare := goodIn_r _ [7, 8, 9, 10, 1, 2, 11, 12, 6, 13, 14, 15, 16, 17, 18] (by decide +kernel) (by decide +kernel)
set_option maxRecDepth 20000 in
theorem gX1_setEdges_X1_compare : GoodIn wsX1_setEdges (wsV RX1 27 RX1 yX1_compare wsX1_compare) := goodIn_app (goodIn_of _ (by decide +kernel)) ggX1_setEdges_X1_compare
theorem dX1_setEdges_0 : decode cX1_setEdges 0 = .ok (.iload_n 1, 1) := by decide +kernel
theorem dX1_setEdges_1 : decode cX1_setEdges 1 = .ok (.ifCond .lt 9, 3) := by decide +kernel
theorem dX1_setEdges_4 : decode cX1_setEdges 4 = .ok (.iload_n 1, 1) := by decide +kernel
theorem dX1_setEdges_5 : decode cX1_setEdges 5 = .ok (.bipush 20, 2) := by decide +kernel
theorem dX1_setEdges_7 : decode cX1_setEdges 7 = .ok (.if_icmp .lt 4, 3) := by decide +kernel
theorem dX1_setEdges_10 : decode cX1_setEdges 10 = .ok (.return_, 1) := by decide +kernel
theorem dX1_setEdges_11 : decode cX1_setEdges 11 = .ok (.aload_n 0, 1) := by decide +kernel
theorem dX1_setEdges_12 : decode cX1_setEdges 12 = .ok (.getfield 9, 3) := by decide +kernel
theorem dX1_setEdges_15 : decode cX1_setEdges 15 = .ok (.iload_n 1, 1) := by decide +kernel
theorem dX1_setEdges_16 : decode cX1_setEdges 16 = .ok (.iload_n 2, 1) := by decide +kernel
theorem dX1_setEdges_17 : decode cX1_setEdges 17 = .ok (.iastore, 1) := by decide +kernel
theorem dX1_setEdges_18 : decode cX1_setEdges 18 = .ok (.aload_n 0, 1) := by decide +kernel
theorem dX1_setEdges_19 : decode cX1_setEdges 19 = .ok (.getfield 15, 3) := by decide +kernel
theorem dX1_setEdges_22 : decode cX1_setEdges 22 = .ok (.iload_n 1, 1) := by decide +kernel
theorem dX1_setEdges_23 : decode cX1_setEdges 23 = .ok (.iload_n 3, 1) := by decide +kernel
theorem dX1_setEdges_24 : decode cX1_setEdges 24 = .ok (.iastore, 1) := by decide +kernel
theorem dX1_setEdges_25 : decode cX1_setEdges 25 = .ok (.iconst 0, 1) := by decide +kernel
theorem dX1_setEdges_26 : decode cX1_setEdges 26 = .ok (.istore 4, 2) := by decide +kernel
theorem dX1_setEdges_28 : decode cX1_setEdges 28 = .ok (.iload 4, 2) := by decide +kernel
theorem dX1_setEdges_30 : decode cX1_setEdges 30 = .ok (.bipush 20, 2) := by decide +kernel
theorem dX1_setEdges_32 : decode cX1_setEdges 32 = .ok (.if_icmp .ge 15, 3) := by decide +kernel
theorem dX1_setEdges_35 : decode cX1_setEdges 35 = .ok (.aload_n 0, 1) := by decide +kernel
theorem dX1_setEdges_36 : decode cX1_setEdges 36 = .ok (.iload 4, 2) := by decide +kernel
theorem dX1_setEdges_38 : decode cX1_setEdges 38 = .ok (.invokevirtual 27, 3) := by decide +kernel
theorem dX1_setEdges_41 : decode cX1_setEdges 41 = .ok (.iinc 4 1, 3) := by decide +kernel
theorem dX1_setEdges_44 : decode cX1_setEdges 44 = .ok (.goto (-16), 3) := by decide +kernel
theorem dX1_setEdges_47 : decode cX1_setEdges 47 = .ok (.return_, 1) := by decide +kernel
set_option maxRecDepth 20000 in
theorem ggX1_compare_X1_fits : GoodIn wsX1_compare wsX1_fits := goodIn_r _ [9] (by decide +kernel) (by decide +kernel)
set_option maxRecDepth 20000 in
theorem gX1_compare_X1_fits : GoodIn wsX1_compare (va_wsS RX1 31 yX1_fits wsX1_fits) := goodIn_app (goodIn_of _ (by decide +kernel)) ggX1_compare_X1_fits
theorem dX1_compare_0 : decode cX1_compare 0 = .ok (.aload_n 0, 1) := by decide +kernel
theorem dX1_compare_1 : decode cX1_compare 1 = .ok (.getfield 18, 3) := by decide +kernel
theorem dX1_compare_4 : decode cX1_compare 4 = .ok (.iload_n 1, 1) := by decide +kernel
theorem dX1_compare_5 : decode cX1_compare 5 = .ok (.iconst 1, 1) := by decide +kernel
theorem dX1_compare_6 : decode cX1_compare 6 = .ok (.iload_n 1, 1) := by decide +kernel
theorem dX1_compare_7 : decode cX1_compare 7 = .ok (.ishl, 1) := by decide +kernel
theorem dX1_compare_8 : decode cX1_compare 8 = .ok (.iastore, 1) := by decide +kernel
theorem dX1_compare_9 : decode cX1_compare 9 = .ok (.aload_n 0, 1) := by decide +kernel
theorem dX1_compare_10 : decode cX1_compare 10 = .ok (.getfield 21, 3) := by decide +kernel
theorem dX1_compare_13 : decode cX1_compare 13 = .ok (.iload_n 1, 1) := by decide +kernel
theorem dX1_compare_14 : decode cX1_compare 14 = .ok (.iconst 0, 1) := by decide +kernel
theorem dX1_compare_15 : decode cX1_compare 15 = .ok (.iastore, 1) := by decide +kernel
theorem dX1_compare_16 : decode cX1_compare 16 = .ok (.aload_n 0, 1) := by decide +kernel
theorem dX1_compare_17 : decode cX1_compare 17 = .ok (.getfield 24, 3) := by decide +kernel
theorem dX1_compare_20 : decode cX1_compare 20 = .ok (.iload_n 1, 1) := by decide +kernel
theorem dX1_compare_21 : decode cX1_compare 21 = .ok (.iconst 0, 1) := by decide +kernel
theorem dX1_compare_22 : decode cX1_compare 22 = .ok (.iastore, 1) := by decide +kernel
theorem dX1_compare_23 : decode cX1_compare 23 = .ok (.iconst 0, 1) := by decide +kernel
theorem dX1_compare_24 : decode cX1_compare 24 = .ok (.istore_n 2, 1) := by decide +kernel
theorem dX1_compare_25 : decode cX1_compare 25 = .ok (.iload_n 2, 1) := by decide +kernel
theorem dX1_compare_26 : decode cX1_compare 26 = .ok (.bipush 20, 2) := by decide +kernel
theorem dX1_compare_28 : decode cX1_compare 28 = .ok (.if_icmp .ge 97, 3) := by decide +kernel
theorem dX1_compare_31 : decode cX1_compare 31 = .ok (.iconst 1, 1) := by decide +kernel
theorem dX1_compare_32 : decode cX1_compare 32 = .ok (.iload_n 2, 1) := by decide +kernel
theorem dX1_compare_33 : decode cX1_compare 33 = .ok (.ishl, 1) := by decide +kernel
theorem dX1_compare_34 : decode cX1_compare 34 = .ok (.istore_n 3, 1) := by decide +kernel
theorem dX1_compare_35 : decode cX1_compare 35 = .ok (.aload_n 0, 1) := by decide +kernel
theorem dX1_compare_36 : decode cX1_compare 36 = .ok (.getfield 9, 3) := by decide +kernel
theorem dX1_compare_39 : decode cX1_compare 39 = .ok (.iload_n 1, 1) := by decide +kernel
theorem dX1_compare_40 : decode cX1_compare 40 = .ok (.iaload, 1) := by decide +kernel
theorem dX1_compare_41 : decode cX1_compare 41 = .ok (.aload_n 0, 1) := by decide +kernel
theorem dX1_compare_42 : decode cX1_compare 42 = .ok (.getfield 9, 3) := by decide +kernel
theorem dX1_compare_45 : decode cX1_compare 45 = .ok (.iload_n 2, 1) := by decide +kernel
theorem dX1_compare_46 : decode cX1_compare 46 = .ok (.iaload, 1) := by decide +kernel
theorem dX1_compare_47 : decode cX1_compare 47 = .ok (.invokestatic 31, 3) := by decide +kernel
theorem dX1_compare_50 : decode cX1_compare 50 = .ok (.ifCond .eq 13, 3) := by decide +kernel
theorem dX1_compare_53 : decode cX1_compare 53 = .ok (.aload_n 0, 1) := by decide +kernel
theorem dX1_compare_54 : decode cX1_compare 54 = .ok (.getfield 18, 3) := by decide +kernel
theorem dX1_compare_57 : decode cX1_compare 57 = .ok (.iload_n 1, 1) := by decide +kernel
theorem dX1_compare_58 : decode cX1_compare 58 = .ok (.dup2, 1) := by decide +kernel
theorem dX1_compare_59 : decode cX1_compare 59 = .ok (.iaload, 1) := by decide +kernel
theorem dX1_compare_60 : decode cX1_compare 60 = .ok (.iload_n 3, 1) := by decide +kernel
theorem dX1_compare_61 : decode cX1_compare 61 = .ok (.ior, 1) := by decide +kernel
theorem dX1_compare_62 : decode cX1_compare 62 = .ok (.iastore, 1) := by decide +kernel
theorem dX1_compare_63 : decode cX1_compare 63 = .ok (.aload_n 0, 1) := by decide +kernel
theorem dX1_compare_64 : decode cX1_compare 64 = .ok (.getfield 9, 3) := by decide +kernel
theorem dX1_compare_67 : decode cX1_compare 67 = .ok (.iload_n 1, 1) := by decide +kernel
theorem dX1_compare_68 : decode cX1_compare 68 = .ok (.iaload, 1) := by decide +kernel
theorem dX1_compare_69 : decode cX1_compare 69 = .ok (.aload_n 0, 1) := by decide +kernel
theorem dX1_compare_70 : decode cX1_compare 70 = .ok (.getfield 15, 3) := by decide +kernel
theorem dX1_compare_73 : decode cX1_compare 73 = .ok (.iload_n 2, 1) := by decide +kernel
theorem dX1_compare_74 : decode cX1_compare 74 = .ok (.iaload, 1) := by decide +kernel
theorem dX1_compare_75 : decode cX1_compare 75 = .ok (.invokestatic 31, 3) := by decide +kernel
theorem dX1_compare_78 : decode cX1_compare 78 = .ok (.ifCond .eq 13, 3) := by decide +kernel
theorem dX1_compare_81 : decode cX1_compare 81 = .ok (.aload_n 0, 1) := by decide +kernel
theorem dX1_compare_82 : decode cX1_compare 82 = .ok (.getfield 21, 3) := by decide +kernel
theorem dX1_compare_85 : decode cX1_compare 85 = .ok (.iload_n 1, 1) := by decide +kernel
theorem dX1_compare_86 : decode cX1_compare 86 = .ok (.dup2, 1) := by decide +kernel
theorem dX1_compare_87 : decode cX1_compare 87 = .ok (.iaload, 1) := by decide +kernel
theorem dX1_compare_88 : decode cX1_compare 88 = .ok (.iload_n 3, 1) := by decide +kernel
theorem dX1_compare_89 : decode cX1_compare 89 = .ok (.ior, 1) := by decide +kernel
theorem dX1_compare_90 : decode cX1_compare 90 = .ok (.iastore, 1) := by decide +kernel
theorem dX1_compare_91 : decode cX1_compare 91 = .ok (.aload_n 0, 1) := by decide +kernel
theorem dX1_compare_92 : decode cX1_compare 92 = .ok (.getfield 15, 3) := by decide +kernel
theorem dX1_compare_95 : decode cX1_compare 95 = .ok (.iload_n 1, 1) := by decide +kernel
theorem dX1_compare_96 : decode cX1_compare 96 = .ok (.iaload, 1) := by decide +kernel
theorem dX1_compare_97 : decode cX1_compare 97 = .ok (.aload_n 0, 1) := by decide +kernel
theorem dX1_compare_98 : decode cX1_compare 98 = .ok (.getfield 9, 3) := by decide +kernel
theorem dX1_compare_101 : decode cX1_compare 101 = .ok (.iload_n 2, 1) := by decide +kernel
theorem dX1_compare_102 : decode cX1_compare 102 = .ok (.iaload, 1) := by decide +kernel
theorem dX1_compare_103 : decode cX1_compare 103 = .ok (.invokestatic 31, 3) := by decide +kernel
theorem dX1_compare_106 : decode cX1_compare 106 = .ok (.ifCond .eq 13, 3) := by decide +kernel
theorem dX1_compare_109 : decode cX1_compare 109 = .ok (.aload_n 0, 1) := by decide +kernel
theorem dX1_compare_110 : decode cX1_compare 110 = .ok (.getfield 24, 3) := by decide +kernel
theorem dX1_compare_113 : decode cX1_compare 113 = .ok (.iload_n 1, 1) := by decide +kernel
theorem dX1_compare_114 : decode cX1_compare 114 = .ok (.dup2, 1) := by decide +kernel
theorem dX1_compare_115 : decode cX1_compare 115 = .ok (.iaload, 1) := by decide +kernel
theorem dX1_compare_116 : decode cX1_compare 116 = .ok (.iload_n 3, 1) := by decide +kernel
theorem dX1_compare_117 : decode cX1_compare 117 = .ok (.ior, 1) := by decide +kernel
theorem dX1_compare_118 : decode cX1_compare 118 = .ok (.iastore, 1) := by decide +kernel
theorem dX1_compare_119 : decode cX1_compare 119 = .ok (.iinc 2 1, 3) := by decide +kernel
theorem dX1_compare_122 : decode cX1_compare 122 = .ok (.goto (-97), 3) := by decide +kernel
theorem dX1_compare_125 : decode cX1_compare 125 = .ok (.return_, 1) := by decide +kernel
theorem dX1_fits_0 : decode cX1_fits 0 = .ok (.iload_n 0, 1) := by decide +kernel
theorem dX1_fits_1 : decode cX1_fits 1 = .ok (.ifCond .eq 12, 3) := by decide +kernel
theorem dX1_fits_4 : decode cX1_fits 4 = .ok (.iload_n 0, 1) := by decide +kernel
theorem dX1_fits_5 : decode cX1_fits 5 = .ok (.iload_n 1, 1) := by decide +kernel
theorem dX1_fits_6 : decode cX1_fits 6 = .ok (.if_icmp .ne 7, 3) := by decide +kernel
theorem dX1_fits_9 : decode cX1_fits 9 = .ok (.iconst 1, 1) := by decide +kernel
theorem dX1_fits_10 : decode cX1_fits 10 = .ok (.goto 4, 3) := by decide +kernel
theorem dX1_fits_13 : decode cX1_fits 13 = .ok (.iconst 0, 1) := by decide +kernel
theorem dX1_fits_14 : decode cX1_fits 14 = .ok (.ireturn, 1) := by decide +kernel
theorem dX1_holds_0 : decode cX1_holds 0 = .ok (.iload_n 0, 1) := by decide +kernel
theorem dX1_holds_1 : decode cX1_holds 1 = .ok (.iconst 1, 1) := by decide +kernel
theorem dX1_holds_2 : decode cX1_holds 2 = .ok (.iload_n 1, 1) := by decide +kernel
theorem dX1_holds_3 : decode cX1_holds 3 = .ok (.ishl, 1) := by decide +kernel
theorem dX1_holds_4 : decode cX1_holds 4 = .ok (.iand, 1) := by decide +kernel
theorem dX1_holds_5 : decode cX1_holds 5 = .ok (.ifCond .eq 7, 3) := by decide +kernel
theorem dX1_holds_8 : decode cX1_holds 8 = .ok (.iconst 1, 1) := by decide +kernel
theorem dX1_holds_9 : decode cX1_holds 9 = .ok (.goto 4, 3) := by decide +kernel
theorem dX1_holds_12 : decode cX1_holds 12 = .ok (.iconst 0, 1) := by decide +kernel
theorem dX1_holds_13 : decode cX1_holds 13 = .ok (.ireturn, 1) := by decide +kernel
set_option maxRecDepth 20000 in
theorem ggX1_missingLeftOf_J6_bitCount_0f7a4 : GoodIn wsX1_missingLeftOf wsJ6_bitCount_0f7a4 := goodIn_r _ [10, 11, 12, 13] (by decide +kernel) (by decide +kernel)
set_option maxRecDepth 20000 in
theorem gX1_missingLeftOf_J6_bitCount_0f7a4 : GoodIn wsX1_missingLeftOf (va_wsS RX1 35 yJ6_bitCount_0f7a4 wsJ6_bitCount_0f7a4) := goodIn_app (goodIn_of _ (by decide +kernel)) ggX1_missingLeftOf_J6_bitCount_0f7a4
theorem dX1_missingLeftOf_0 : decode cX1_missingLeftOf 0 = .ok (.iconst 0, 1) := by decide +kernel
theorem dX1_missingLeftOf_1 : decode cX1_missingLeftOf 1 = .ok (.aload_n 0, 1) := by decide +kernel
theorem dX1_missingLeftOf_2 : decode cX1_missingLeftOf 2 = .ok (.getfield 18, 3) := by decide +kernel
theorem dX1_missingLeftOf_5 : decode cX1_missingLeftOf 5 = .ok (.iload_n 1, 1) := by decide +kernel
theorem dX1_missingLeftOf_6 : decode cX1_missingLeftOf 6 = .ok (.iaload, 1) := by decide +kernel
theorem dX1_missingLeftOf_7 : decode cX1_missingLeftOf 7 = .ok (.iload_n 2, 1) := by decide +kernel
theorem dX1_missingLeftOf_8 : decode cX1_missingLeftOf 8 = .ok (.iand, 1) := by decide +kernel
theorem dX1_missingLeftOf_9 : decode cX1_missingLeftOf 9 = .ok (.invokestatic 35, 3) := by decide +kernel
theorem dX1_missingLeftOf_12 : decode cX1_missingLeftOf 12 = .ok (.aload_n 0, 1) := by decide +kernel
theorem dX1_missingLeftOf_13 : decode cX1_missingLeftOf 13 = .ok (.getfield 21, 3) := by decide +kernel
theorem dX1_missingLeftOf_16 : decode cX1_missingLeftOf 16 = .ok (.iload_n 1, 1) := by decide +kernel
theorem dX1_missingLeftOf_17 : decode cX1_missingLeftOf 17 = .ok (.iaload, 1) := by decide +kernel
theorem dX1_missingLeftOf_18 : decode cX1_missingLeftOf 18 = .ok (.iload_n 2, 1) := by decide +kernel
theorem dX1_missingLeftOf_19 : decode cX1_missingLeftOf 19 = .ok (.iand, 1) := by decide +kernel
theorem dX1_missingLeftOf_20 : decode cX1_missingLeftOf 20 = .ok (.invokestatic 35, 3) := by decide +kernel
theorem dX1_missingLeftOf_23 : decode cX1_missingLeftOf 23 = .ok (.isub, 1) := by decide +kernel
theorem dX1_missingLeftOf_24 : decode cX1_missingLeftOf 24 = .ok (.invokestatic 41, 3) := by decide +kernel
theorem dX1_missingLeftOf_27 : decode cX1_missingLeftOf 27 = .ok (.ireturn, 1) := by decide +kernel
set_option maxRecDepth 20000 in
theorem ggX1_startsIn_X1_holds : GoodIn wsX1_startsIn wsX1_holds := goodIn_r _ [5] (by decide +kernel) (by decide +kernel)
set_option maxRecDepth 20000 in
theorem gX1_startsIn_X1_holds : GoodIn wsX1_startsIn (va_wsS RX1 47 yX1_holds wsX1_holds) := goodIn_app (goodIn_of _ (by decide +kernel)) ggX1_startsIn_X1_holds
set_option maxRecDepth 20000 in
theorem ggX1_startsIn_X1_missingLeftOf : GoodIn wsX1_startsIn wsX1_missingLeftOf := goodIn_r _ [9, 1, 10, 11, 12, 13, 14, 15, 16, 17, 18, 19, 20, 21, 22, 23, 24, 25, 26] (by decide +kernel) (by decide +kernel)
set_option maxRecDepth 20000 in
theorem gX1_startsIn_X1_missingLeftOf : GoodIn wsX1_startsIn (wsV RX1 50 RX1 yX1_missingLeftOf wsX1_missingLeftOf) := goodIn_app (goodIn_of _ (by decide +kernel)) ggX1_startsIn_X1_missingLeftOf
theorem dX1_startsIn_0 : decode cX1_startsIn 0 = .ok (.iconst 0, 1) := by decide +kernel
theorem dX1_startsIn_1 : decode cX1_startsIn 1 = .ok (.istore_n 2, 1) := by decide +kernel
theorem dX1_startsIn_2 : decode cX1_startsIn 2 = .ok (.iconst 0, 1) := by decide +kernel
theorem dX1_startsIn_3 : decode cX1_startsIn 3 = .ok (.istore_n 3, 1) := by decide +kernel
theorem dX1_startsIn_4 : decode cX1_startsIn 4 = .ok (.iload_n 3, 1) := by decide +kernel
theorem dX1_startsIn_5 : decode cX1_startsIn 5 = .ok (.bipush 20, 2) := by decide +kernel
theorem dX1_startsIn_7 : decode cX1_startsIn 7 = .ok (.if_icmp .ge 47, 3) := by decide +kernel
theorem dX1_startsIn_10 : decode cX1_startsIn 10 = .ok (.iconst 1, 1) := by decide +kernel
theorem dX1_startsIn_11 : decode cX1_startsIn 11 = .ok (.iload_n 3, 1) := by decide +kernel
theorem dX1_startsIn_12 : decode cX1_startsIn 12 = .ok (.ishl, 1) := by decide +kernel
theorem dX1_startsIn_13 : decode cX1_startsIn 13 = .ok (.iconst 1, 1) := by decide +kernel
theorem dX1_startsIn_14 : decode cX1_startsIn 14 = .ok (.isub, 1) := by decide +kernel
theorem dX1_startsIn_15 : decode cX1_startsIn 15 = .ok (.istore 4, 2) := by decide +kernel
theorem dX1_startsIn_17 : decode cX1_startsIn 17 = .ok (.iload_n 1, 1) := by decide +kernel
theorem dX1_startsIn_18 : decode cX1_startsIn 18 = .ok (.iload_n 3, 1) := by decide +kernel
theorem dX1_startsIn_19 : decode cX1_startsIn 19 = .ok (.invokestatic 47, 3) := by decide +kernel
theorem dX1_startsIn_22 : decode cX1_startsIn 22 = .ok (.ifCond .eq 26, 3) := by decide +kernel
theorem dX1_startsIn_25 : decode cX1_startsIn 25 = .ok (.aload_n 0, 1) := by decide +kernel
theorem dX1_startsIn_26 : decode cX1_startsIn 26 = .ok (.getfield 18, 3) := by decide +kernel
theorem dX1_startsIn_29 : decode cX1_startsIn 29 = .ok (.iload_n 3, 1) := by decide +kernel
theorem dX1_startsIn_30 : decode cX1_startsIn 30 = .ok (.iaload, 1) := by decide +kernel
theorem dX1_startsIn_31 : decode cX1_startsIn 31 = .ok (.iload_n 1, 1) := by decide +kernel
theorem dX1_startsIn_32 : decode cX1_startsIn 32 = .ok (.iand, 1) := by decide +kernel
theorem dX1_startsIn_33 : decode cX1_startsIn 33 = .ok (.iload 4, 2) := by decide +kernel
theorem dX1_startsIn_35 : decode cX1_startsIn 35 = .ok (.iand, 1) := by decide +kernel
theorem dX1_startsIn_36 : decode cX1_startsIn 36 = .ok (.ifCond .ne 12, 3) := by decide +kernel
theorem dX1_startsIn_39 : decode cX1_startsIn 39 = .ok (.iload_n 2, 1) := by decide +kernel
theorem dX1_startsIn_40 : decode cX1_startsIn 40 = .ok (.aload_n 0, 1) := by decide +kernel
theorem dX1_startsIn_41 : decode cX1_startsIn 41 = .ok (.iload_n 3, 1) := by decide +kernel
theorem dX1_startsIn_42 : decode cX1_startsIn 42 = .ok (.iload_n 1, 1) := by decide +kernel
theorem dX1_startsIn_43 : decode cX1_startsIn 43 = .ok (.invokevirtual 50, 3) := by decide +kernel
theorem dX1_startsIn_46 : decode cX1_startsIn 46 = .ok (.iadd, 1) := by decide +kernel
theorem dX1_startsIn_47 : decode cX1_startsIn 47 = .ok (.istore_n 2, 1) := by decide +kernel
theorem dX1_startsIn_48 : decode cX1_startsIn 48 = .ok (.iinc 3 1, 3) := by decide +kernel
theorem dX1_startsIn_51 : decode cX1_startsIn 51 = .ok (.goto (-47), 3) := by decide +kernel
theorem dX1_startsIn_54 : decode cX1_startsIn 54 = .ok (.iload_n 2, 1) := by decide +kernel
theorem dX1_startsIn_55 : decode cX1_startsIn 55 = .ok (.ireturn, 1) := by decide +kernel
set_option maxRecDepth 20000 in
theorem ggX1_partOf_X1_holds : GoodIn wsX1_partOf wsX1_holds := goodIn_r _ [6] (by decide +kernel) (by decide +kernel)
set_option maxRecDepth 20000 in
theorem gX1_partOf_X1_holds : GoodIn wsX1_partOf (va_wsS RX1 47 yX1_holds wsX1_holds) := goodIn_app (goodIn_of _ (by decide +kernel)) ggX1_partOf_X1_holds
theorem dX1_partOf_0 : decode cX1_partOf 0 = .ok (.iload_n 1, 1) := by decide +kernel
theorem dX1_partOf_1 : decode cX1_partOf 1 = .ok (.iload_n 1, 1) := by decide +kernel
theorem dX1_partOf_2 : decode cX1_partOf 2 = .ok (.ineg, 1) := by decide +kernel
theorem dX1_partOf_3 : decode cX1_partOf 3 = .ok (.iand, 1) := by decide +kernel
theorem dX1_partOf_4 : decode cX1_partOf 4 = .ok (.istore_n 2, 1) := by decide +kernel
theorem dX1_partOf_5 : decode cX1_partOf 5 = .ok (.iconst 0, 1) := by decide +kernel
theorem dX1_partOf_6 : decode cX1_partOf 6 = .ok (.istore_n 3, 1) := by decide +kernel
theorem dX1_partOf_7 : decode cX1_partOf 7 = .ok (.iload_n 3, 1) := by decide +kernel
theorem dX1_partOf_8 : decode cX1_partOf 8 = .ok (.bipush 20, 2) := by decide +kernel
theorem dX1_partOf_10 : decode cX1_partOf 10 = .ok (.if_icmp .ge 71, 3) := by decide +kernel
theorem dX1_partOf_13 : decode cX1_partOf 13 = .ok (.iload_n 2, 1) := by decide +kernel
theorem dX1_partOf_14 : decode cX1_partOf 14 = .ok (.istore 4, 2) := by decide +kernel
theorem dX1_partOf_16 : decode cX1_partOf 16 = .ok (.iconst 0, 1) := by decide +kernel
theorem dX1_partOf_17 : decode cX1_partOf 17 = .ok (.istore 5, 2) := by decide +kernel
theorem dX1_partOf_19 : decode cX1_partOf 19 = .ok (.iload 5, 2) := by decide +kernel
theorem dX1_partOf_21 : decode cX1_partOf 21 = .ok (.bipush 20, 2) := by decide +kernel
theorem dX1_partOf_23 : decode cX1_partOf 23 = .ok (.if_icmp .ge 41, 3) := by decide +kernel
theorem dX1_partOf_26 : decode cX1_partOf 26 = .ok (.iload 4, 2) := by decide +kernel
theorem dX1_partOf_28 : decode cX1_partOf 28 = .ok (.iload 5, 2) := by decide +kernel
theorem dX1_partOf_30 : decode cX1_partOf 30 = .ok (.invokestatic 47, 3) := by decide +kernel
theorem dX1_partOf_33 : decode cX1_partOf 33 = .ok (.ifCond .eq 25, 3) := by decide +kernel
theorem dX1_partOf_36 : decode cX1_partOf 36 = .ok (.iload 4, 2) := by decide +kernel
theorem dX1_partOf_38 : decode cX1_partOf 38 = .ok (.aload_n 0, 1) := by decide +kernel
theorem dX1_partOf_39 : decode cX1_partOf 39 = .ok (.getfield 21, 3) := by decide +kernel
theorem dX1_partOf_42 : decode cX1_partOf 42 = .ok (.iload 5, 2) := by decide +kernel
theorem dX1_partOf_44 : decode cX1_partOf 44 = .ok (.iaload, 1) := by decide +kernel
theorem dX1_partOf_45 : decode cX1_partOf 45 = .ok (.aload_n 0, 1) := by decide +kernel
theorem dX1_partOf_46 : decode cX1_partOf 46 = .ok (.getfield 24, 3) := by decide +kernel
theorem dX1_partOf_49 : decode cX1_partOf 49 = .ok (.iload 5, 2) := by decide +kernel
theorem dX1_partOf_51 : decode cX1_partOf 51 = .ok (.iaload, 1) := by decide +kernel
theorem dX1_partOf_52 : decode cX1_partOf 52 = .ok (.ior, 1) := by decide +kernel
theorem dX1_partOf_53 : decode cX1_partOf 53 = .ok (.iload_n 1, 1) := by decide +kernel
theorem dX1_partOf_54 : decode cX1_partOf 54 = .ok (.iand, 1) := by decide +kernel
theorem dX1_partOf_55 : decode cX1_partOf 55 = .ok (.ior, 1) := by decide +kernel
theorem dX1_partOf_56 : decode cX1_partOf 56 = .ok (.istore 4, 2) := by decide +kernel
theorem dX1_partOf_58 : decode cX1_partOf 58 = .ok (.iinc 5 1, 3) := by decide +kernel
theorem dX1_partOf_61 : decode cX1_partOf 61 = .ok (.goto (-42), 3) := by decide +kernel
theorem dX1_partOf_64 : decode cX1_partOf 64 = .ok (.iload 4, 2) := by decide +kernel
theorem dX1_partOf_66 : decode cX1_partOf 66 = .ok (.iload_n 2, 1) := by decide +kernel
theorem dX1_partOf_67 : decode cX1_partOf 67 = .ok (.if_icmp .ne 5, 3) := by decide +kernel
theorem dX1_partOf_70 : decode cX1_partOf 70 = .ok (.iload_n 2, 1) := by decide +kernel
theorem dX1_partOf_71 : decode cX1_partOf 71 = .ok (.ireturn, 1) := by decide +kernel
theorem dX1_partOf_72 : decode cX1_partOf 72 = .ok (.iload 4, 2) := by decide +kernel
theorem dX1_partOf_74 : decode cX1_partOf 74 = .ok (.istore_n 2, 1) := by decide +kernel
theorem dX1_partOf_75 : decode cX1_partOf 75 = .ok (.iinc 3 1, 3) := by decide +kernel
theorem dX1_partOf_78 : decode cX1_partOf 78 = .ok (.goto (-71), 3) := by decide +kernel
theorem dX1_partOf_81 : decode cX1_partOf 81 = .ok (.iload_n 2, 1) := by decide +kernel
theorem dX1_partOf_82 : decode cX1_partOf 82 = .ok (.ireturn, 1) := by decide +kernel
set_option maxRecDepth 20000 in
theorem ggX1_fewestRows_X1_partOf : GoodIn wsX1_fewestRows wsX1_partOf := goodIn_r _ [9, 10, 11, 12, 13, 8, 14, 31, 32, 33, 34, 35] (by decide +kernel) (by decide +kernel)
set_option maxRecDepth 20000 in
theorem gX1_fewestRows_X1_partOf : GoodIn wsX1_fewestRows (wsV RX1 53 RX1 yX1_partOf wsX1_partOf) := goodIn_app (goodIn_of _ (by decide +kernel)) ggX1_fewestRows_X1_partOf
set_option maxRecDepth 20000 in
theorem ggX1_fewestRows_X1_startsIn : GoodIn wsX1_fewestRows wsX1_startsIn := goodIn_r _ [18, 19, 12, 13, 8, 14, 20, 21, 22, 23, 10, 1, 2, 3, 4, 24, 25, 26, 27, 28, 29, 30, 31, 32, 33, 34, 35] (by decide +kernel) (by decide +kernel)
set_option maxRecDepth 20000 in
theorem gX1_fewestRows_X1_startsIn : GoodIn wsX1_fewestRows (wsV RX1 56 RX1 yX1_startsIn wsX1_startsIn) := goodIn_app (goodIn_of _ (by decide +kernel)) ggX1_fewestRows_X1_startsIn
theorem dX1_fewestRows_0 : decode cX1_fewestRows 0 = .ok (.iload_n 1, 1) := by decide +kernel
theorem dX1_fewestRows_1 : decode cX1_fewestRows 1 = .ok (.istore_n 2, 1) := by decide +kernel
theorem dX1_fewestRows_2 : decode cX1_fewestRows 2 = .ok (.iconst 0, 1) := by decide +kernel
theorem dX1_fewestRows_3 : decode cX1_fewestRows 3 = .ok (.istore_n 3, 1) := by decide +kernel
theorem dX1_fewestRows_4 : decode cX1_fewestRows 4 = .ok (.iconst 0, 1) := by decide +kernel
theorem dX1_fewestRows_5 : decode cX1_fewestRows 5 = .ok (.istore 4, 2) := by decide +kernel
theorem dX1_fewestRows_7 : decode cX1_fewestRows 7 = .ok (.iload 4, 2) := by decide +kernel
theorem dX1_fewestRows_9 : decode cX1_fewestRows 9 = .ok (.bipush 20, 2) := by decide +kernel
theorem dX1_fewestRows_11 : decode cX1_fewestRows 11 = .ok (.if_icmp .ge 40, 3) := by decide +kernel
theorem dX1_fewestRows_14 : decode cX1_fewestRows 14 = .ok (.iload_n 2, 1) := by decide +kernel
theorem dX1_fewestRows_15 : decode cX1_fewestRows 15 = .ok (.ifCond .eq 36, 3) := by decide +kernel
theorem dX1_fewestRows_18 : decode cX1_fewestRows 18 = .ok (.aload_n 0, 1) := by decide +kernel
theorem dX1_fewestRows_19 : decode cX1_fewestRows 19 = .ok (.iload_n 2, 1) := by decide +kernel
theorem dX1_fewestRows_20 : decode cX1_fewestRows 20 = .ok (.invokevirtual 53, 3) := by decide +kernel
theorem dX1_fewestRows_23 : decode cX1_fewestRows 23 = .ok (.istore 5, 2) := by decide +kernel
theorem dX1_fewestRows_25 : decode cX1_fewestRows 25 = .ok (.iload_n 3, 1) := by decide +kernel
theorem dX1_fewestRows_26 : decode cX1_fewestRows 26 = .ok (.iconst 1, 1) := by decide +kernel
theorem dX1_fewestRows_27 : decode cX1_fewestRows 27 = .ok (.aload_n 0, 1) := by decide +kernel
theorem dX1_fewestRows_28 : decode cX1_fewestRows 28 = .ok (.iload 5, 2) := by decide +kernel
theorem dX1_fewestRows_30 : decode cX1_fewestRows 30 = .ok (.invokevirtual 56, 3) := by decide +kernel
theorem dX1_fewestRows_33 : decode cX1_fewestRows 33 = .ok (.invokestatic 41, 3) := by decide +kernel
theorem dX1_fewestRows_36 : decode cX1_fewestRows 36 = .ok (.iadd, 1) := by decide +kernel
theorem dX1_fewestRows_37 : decode cX1_fewestRows 37 = .ok (.istore_n 3, 1) := by decide +kernel
theorem dX1_fewestRows_38 : decode cX1_fewestRows 38 = .ok (.iload_n 2, 1) := by decide +kernel
theorem dX1_fewestRows_39 : decode cX1_fewestRows 39 = .ok (.iload 5, 2) := by decide +kernel
theorem dX1_fewestRows_41 : decode cX1_fewestRows 41 = .ok (.iconst (-1), 1) := by decide +kernel
theorem dX1_fewestRows_42 : decode cX1_fewestRows 42 = .ok (.ixor, 1) := by decide +kernel
theorem dX1_fewestRows_43 : decode cX1_fewestRows 43 = .ok (.iand, 1) := by decide +kernel
theorem dX1_fewestRows_44 : decode cX1_fewestRows 44 = .ok (.istore_n 2, 1) := by decide +kernel
theorem dX1_fewestRows_45 : decode cX1_fewestRows 45 = .ok (.iinc 4 1, 3) := by decide +kernel
theorem dX1_fewestRows_48 : decode cX1_fewestRows 48 = .ok (.goto (-41), 3) := by decide +kernel
theorem dX1_fewestRows_51 : decode cX1_fewestRows 51 = .ok (.iload_n 3, 1) := by decide +kernel
theorem dX1_fewestRows_52 : decode cX1_fewestRows 52 = .ok (.ireturn, 1) := by decide +kernel
set_option maxRecDepth 20000 in
theorem ggX1_writeFirstRow_X1_firstPlaces : GoodIn wsX1_writeFirstRow wsX1_firstPlaces := goodIn_r _ [6, 7, 8, 9, 5, 10, 11, 12, 13, 14, 15, 16, 17, 18, 19, 20, 21, 22, 23, 24, 25, 26, 27, 28, 29, 30, 43, 44, 45, 46, 47] (by decide +kernel) (by decide +kernel)
set_option maxRecDepth 20000 in
theorem gX1_writeFirstRow_X1_firstPlaces : GoodIn wsX1_writeFirstRow (wsV RX1 59 RX1 yX1_firstPlaces wsX1_firstPlaces) := goodIn_app (goodIn_of _ (by decide +kernel)) ggX1_writeFirstRow_X1_firstPlaces
set_option maxRecDepth 20000 in
theorem ggX1_writeFirstRow_X1_leastThatGoesOn : GoodIn wsX1_writeFirstRow wsX1_leastThatGoesOn := goodIn_r _ [34, 12, 13, 5, 14, 35, 36, 37, 38, 1, 39, 40, 41, 42, 19, 43, 44, 45, 46, 47] (by decide +kernel) (by decide +kernel)
set_option maxRecDepth 20000 in
theorem gX1_writeFirstRow_X1_leastThatGoesOn : GoodIn wsX1_writeFirstRow (wsV RX1 62 RX1 yX1_leastThatGoesOn wsX1_leastThatGoesOn) := goodIn_app (goodIn_of _ (by decide +kernel)) ggX1_writeFirstRow_X1_leastThatGoesOn
theorem dX1_writeFirstRow_0 : decode cX1_writeFirstRow 0 = .ok (.iload_n 1, 1) := by decide +kernel
theorem dX1_writeFirstRow_1 : decode cX1_writeFirstRow 1 = .ok (.istore_n 3, 1) := by decide +kernel
theorem dX1_writeFirstRow_2 : decode cX1_writeFirstRow 2 = .ok (.aload_n 0, 1) := by decide +kernel
theorem dX1_writeFirstRow_3 : decode cX1_writeFirstRow 3 = .ok (.iload_n 1, 1) := by decide +kernel
theorem dX1_writeFirstRow_4 : decode cX1_writeFirstRow 4 = .ok (.invokevirtual 59, 3) := by decide +kernel
theorem dX1_writeFirstRow_7 : decode cX1_writeFirstRow 7 = .ok (.istore 4, 2) := by decide +kernel
theorem dX1_writeFirstRow_9 : decode cX1_writeFirstRow 9 = .ok (.iconst 0, 1) := by decide +kernel
theorem dX1_writeFirstRow_10 : decode cX1_writeFirstRow 10 = .ok (.istore 5, 2) := by decide +kernel
theorem dX1_writeFirstRow_12 : decode cX1_writeFirstRow 12 = .ok (.iload 5, 2) := by decide +kernel
theorem dX1_writeFirstRow_14 : decode cX1_writeFirstRow 14 = .ok (.aload_n 2, 1) := by decide +kernel
theorem dX1_writeFirstRow_15 : decode cX1_writeFirstRow 15 = .ok (.arraylength, 1) := by decide +kernel
theorem dX1_writeFirstRow_16 : decode cX1_writeFirstRow 16 = .ok (.if_icmp .ge 57, 3) := by decide +kernel
theorem dX1_writeFirstRow_19 : decode cX1_writeFirstRow 19 = .ok (.iload_n 3, 1) := by decide +kernel
theorem dX1_writeFirstRow_20 : decode cX1_writeFirstRow 20 = .ok (.ifCond .eq 53, 3) := by decide +kernel
theorem dX1_writeFirstRow_23 : decode cX1_writeFirstRow 23 = .ok (.aload_n 0, 1) := by decide +kernel
theorem dX1_writeFirstRow_24 : decode cX1_writeFirstRow 24 = .ok (.iload 4, 2) := by decide +kernel
theorem dX1_writeFirstRow_26 : decode cX1_writeFirstRow 26 = .ok (.iload_n 3, 1) := by decide +kernel
theorem dX1_writeFirstRow_27 : decode cX1_writeFirstRow 27 = .ok (.iand, 1) := by decide +kernel
theorem dX1_writeFirstRow_28 : decode cX1_writeFirstRow 28 = .ok (.iload_n 3, 1) := by decide +kernel
theorem dX1_writeFirstRow_29 : decode cX1_writeFirstRow 29 = .ok (.invokevirtual 62, 3) := by decide +kernel
theorem dX1_writeFirstRow_32 : decode cX1_writeFirstRow 32 = .ok (.istore 6, 2) := by decide +kernel
theorem dX1_writeFirstRow_34 : decode cX1_writeFirstRow 34 = .ok (.iload 6, 2) := by decide +kernel
theorem dX1_writeFirstRow_36 : decode cX1_writeFirstRow 36 = .ok (.iconst (-1), 1) := by decide +kernel
theorem dX1_writeFirstRow_37 : decode cX1_writeFirstRow 37 = .ok (.if_icmp .ne 6, 3) := by decide +kernel
theorem dX1_writeFirstRow_40 : decode cX1_writeFirstRow 40 = .ok (.iload 5, 2) := by decide +kernel
theorem dX1_writeFirstRow_42 : decode cX1_writeFirstRow 42 = .ok (.ireturn, 1) := by decide +kernel
theorem dX1_writeFirstRow_43 : decode cX1_writeFirstRow 43 = .ok (.aload_n 2, 1) := by decide +kernel
theorem dX1_writeFirstRow_44 : decode cX1_writeFirstRow 44 = .ok (.iload 5, 2) := by decide +kernel
theorem dX1_writeFirstRow_46 : decode cX1_writeFirstRow 46 = .ok (.iload 6, 2) := by decide +kernel
theorem dX1_writeFirstRow_48 : decode cX1_writeFirstRow 48 = .ok (.iastore, 1) := by decide +kernel
theorem dX1_writeFirstRow_49 : decode cX1_writeFirstRow 49 = .ok (.iinc 5 1, 3) := by decide +kernel
theorem dX1_writeFirstRow_52 : decode cX1_writeFirstRow 52 = .ok (.iload_n 3, 1) := by decide +kernel
theorem dX1_writeFirstRow_53 : decode cX1_writeFirstRow 53 = .ok (.iconst 1, 1) := by decide +kernel
theorem dX1_writeFirstRow_54 : decode cX1_writeFirstRow 54 = .ok (.iload 6, 2) := by decide +kernel
theorem dX1_writeFirstRow_56 : decode cX1_writeFirstRow 56 = .ok (.ishl, 1) := by decide +kernel
theorem dX1_writeFirstRow_57 : decode cX1_writeFirstRow 57 = .ok (.iconst (-1), 1) := by decide +kernel
theorem dX1_writeFirstRow_58 : decode cX1_writeFirstRow 58 = .ok (.ixor, 1) := by decide +kernel
theorem dX1_writeFirstRow_59 : decode cX1_writeFirstRow 59 = .ok (.iand, 1) := by decide +kernel
theorem dX1_writeFirstRow_60 : decode cX1_writeFirstRow 60 = .ok (.istore_n 3, 1) := by decide +kernel
theorem dX1_writeFirstRow_61 : decode cX1_writeFirstRow 61 = .ok (.aload_n 0, 1) := by decide +kernel
theorem dX1_writeFirstRow_62 : decode cX1_writeFirstRow 62 = .ok (.getfield 24, 3) := by decide +kernel
theorem dX1_writeFirstRow_65 : decode cX1_writeFirstRow 65 = .ok (.iload 6, 2) := by decide +kernel
theorem dX1_writeFirstRow_67 : decode cX1_writeFirstRow 67 = .ok (.iaload, 1) := by decide +kernel
theorem dX1_writeFirstRow_68 : decode cX1_writeFirstRow 68 = .ok (.istore 4, 2) := by decide +kernel
theorem dX1_writeFirstRow_70 : decode cX1_writeFirstRow 70 = .ok (.goto (-58), 3) := by decide +kernel
theorem dX1_writeFirstRow_73 : decode cX1_writeFirstRow 73 = .ok (.iload 5, 2) := by decide +kernel
theorem dX1_writeFirstRow_75 : decode cX1_writeFirstRow 75 = .ok (.ireturn, 1) := by decide +kernel
set_option maxRecDepth 20000 in
theorem ggX1_firstPlaces_X1_startsIn : GoodIn wsX1_firstPlaces wsX1_startsIn := goodIn_r _ [5, 6, 7, 8, 4, 9, 10, 11, 12, 13, 14, 15, 16, 17, 18, 19, 20, 21, 22, 23, 24, 25, 26, 27, 28, 29, 30] (by decide +kernel) (by decide +kernel)
set_option maxRecDepth 20000 in
theorem gX1_firstPlaces_X1_startsIn : GoodIn wsX1_firstPlaces (wsV RX1 56 RX1 yX1_startsIn wsX1_startsIn) := goodIn_app (goodIn_of _ (by decide +kernel)) ggX1_firstPlaces_X1_startsIn
set_option maxRecDepth 20000 in
theorem ggX1_firstPlaces_X1_holds : GoodIn wsX1_firstPlaces wsX1_holds := goodIn_r _ [9] (by decide +kernel) (by decide +kernel)
set_option maxRecDepth 20000 in
theorem gX1_firstPlaces_X1_holds : GoodIn wsX1_firstPlaces (va_wsS RX1 47 yX1_holds wsX1_holds) := goodIn_app (goodIn_of _ (by decide +kernel)) ggX1_firstPlaces_X1_holds
set_option maxRecDepth 20000 in
theorem ggX1_firstPlaces_X1_missingLeftOf : GoodIn wsX1_firstPlaces wsX1_missingLeftOf := goodIn_r _ [13, 6, 14, 15, 16, 17, 18, 19, 20, 21, 22, 23, 24, 25, 26, 27, 28, 29, 30] (by decide +kernel) (by decide +kernel)
set_option maxRecDepth 20000 in
theorem gX1_firstPlaces_X1_missingLeftOf : GoodIn wsX1_firstPlaces (wsV RX1 50 RX1 yX1_missingLeftOf wsX1_missingLeftOf) := goodIn_app (goodIn_of _ (by decide +kernel)) ggX1_firstPlaces_X1_missingLeftOf
theorem dX1_firstPlaces_0 : decode cX1_firstPlaces 0 = .ok (.aload_n 0, 1) := by decide +kernel
theorem dX1_firstPlaces_1 : decode cX1_firstPlaces 1 = .ok (.iload_n 1, 1) := by decide +kernel
theorem dX1_firstPlaces_2 : decode cX1_firstPlaces 2 = .ok (.invokevirtual 56, 3) := by decide +kernel
theorem dX1_firstPlaces_5 : decode cX1_firstPlaces 5 = .ok (.ifCond .ne 5, 3) := by decide +kernel
theorem dX1_firstPlaces_8 : decode cX1_firstPlaces 8 = .ok (.iload_n 1, 1) := by decide +kernel
theorem dX1_firstPlaces_9 : decode cX1_firstPlaces 9 = .ok (.ireturn, 1) := by decide +kernel
theorem dX1_firstPlaces_10 : decode cX1_firstPlaces 10 = .ok (.iconst 0, 1) := by decide +kernel
theorem dX1_firstPlaces_11 : decode cX1_firstPlaces 11 = .ok (.istore_n 2, 1) := by decide +kernel
theorem dX1_firstPlaces_12 : decode cX1_firstPlaces 12 = .ok (.iconst 0, 1) := by decide +kernel
theorem dX1_firstPlaces_13 : decode cX1_firstPlaces 13 = .ok (.istore_n 3, 1) := by decide +kernel
theorem dX1_firstPlaces_14 : decode cX1_firstPlaces 14 = .ok (.iload_n 3, 1) := by decide +kernel
theorem dX1_firstPlaces_15 : decode cX1_firstPlaces 15 = .ok (.bipush 20, 2) := by decide +kernel
theorem dX1_firstPlaces_17 : decode cX1_firstPlaces 17 = .ok (.if_icmp .ge 32, 3) := by decide +kernel
theorem dX1_firstPlaces_20 : decode cX1_firstPlaces 20 = .ok (.iload_n 1, 1) := by decide +kernel
theorem dX1_firstPlaces_21 : decode cX1_firstPlaces 21 = .ok (.iload_n 3, 1) := by decide +kernel
theorem dX1_firstPlaces_22 : decode cX1_firstPlaces 22 = .ok (.invokestatic 47, 3) := by decide +kernel
theorem dX1_firstPlaces_25 : decode cX1_firstPlaces 25 = .ok (.ifCond .eq 18, 3) := by decide +kernel
theorem dX1_firstPlaces_28 : decode cX1_firstPlaces 28 = .ok (.aload_n 0, 1) := by decide +kernel
theorem dX1_firstPlaces_29 : decode cX1_firstPlaces 29 = .ok (.iload_n 3, 1) := by decide +kernel
theorem dX1_firstPlaces_30 : decode cX1_firstPlaces 30 = .ok (.iload_n 1, 1) := by decide +kernel
theorem dX1_firstPlaces_31 : decode cX1_firstPlaces 31 = .ok (.invokevirtual 50, 3) := by decide +kernel
theorem dX1_firstPlaces_34 : decode cX1_firstPlaces 34 = .ok (.ifCond .le 9, 3) := by decide +kernel
theorem dX1_firstPlaces_37 : decode cX1_firstPlaces 37 = .ok (.iload_n 2, 1) := by decide +kernel
theorem dX1_firstPlaces_38 : decode cX1_firstPlaces 38 = .ok (.iconst 1, 1) := by decide +kernel
theorem dX1_firstPlaces_39 : decode cX1_firstPlaces 39 = .ok (.iload_n 3, 1) := by decide +kernel
theorem dX1_firstPlaces_40 : decode cX1_firstPlaces 40 = .ok (.ishl, 1) := by decide +kernel
theorem dX1_firstPlaces_41 : decode cX1_firstPlaces 41 = .ok (.ior, 1) := by decide +kernel
theorem dX1_firstPlaces_42 : decode cX1_firstPlaces 42 = .ok (.istore_n 2, 1) := by decide +kernel
theorem dX1_firstPlaces_43 : decode cX1_firstPlaces 43 = .ok (.iinc 3 1, 3) := by decide +kernel
theorem dX1_firstPlaces_46 : decode cX1_firstPlaces 46 = .ok (.goto (-32), 3) := by decide +kernel
theorem dX1_firstPlaces_49 : decode cX1_firstPlaces 49 = .ok (.iload_n 2, 1) := by decide +kernel
theorem dX1_firstPlaces_50 : decode cX1_firstPlaces 50 = .ok (.ireturn, 1) := by decide +kernel
set_option maxRecDepth 20000 in
theorem ggX1_leastThatGoesOn_X1_holds : GoodIn wsX1_leastThatGoesOn wsX1_holds := goodIn_r _ [4] (by decide +kernel) (by decide +kernel)
set_option maxRecDepth 20000 in
theorem gX1_leastThatGoesOn_X1_holds : GoodIn wsX1_leastThatGoesOn (va_wsS RX1 47 yX1_holds wsX1_holds) := goodIn_app (goodIn_of _ (by decide +kernel)) ggX1_leastThatGoesOn_X1_holds
set_option maxRecDepth 20000 in
theorem ggX1_leastThatGoesOn_X1_goesOn : GoodIn wsX1_leastThatGoesOn wsX1_goesOn := goodIn_r _ [8, 9, 10, 11, 12, 3, 13, 14, 1, 2, 4, 15, 16, 17, 18, 19] (by decide +kernel) (by decide +kernel)
set_option maxRecDepth 20000 in
theorem gX1_leastThatGoesOn_X1_goesOn : GoodIn wsX1_leastThatGoesOn (wsV RX1 65 RX1 yX1_goesOn wsX1_goesOn) := goodIn_app (goodIn_of _ (by decide +kernel)) ggX1_leastThatGoesOn_X1_goesOn
theorem dX1_leastThatGoesOn_0 : decode cX1_leastThatGoesOn 0 = .ok (.iconst 0, 1) := by decide +kernel
theorem dX1_leastThatGoesOn_1 : decode cX1_leastThatGoesOn 1 = .ok (.istore_n 3, 1) := by decide +kernel
theorem dX1_leastThatGoesOn_2 : decode cX1_leastThatGoesOn 2 = .ok (.iload_n 3, 1) := by decide +kernel
theorem dX1_leastThatGoesOn_3 : decode cX1_leastThatGoesOn 3 = .ok (.bipush 20, 2) := by decide +kernel
theorem dX1_leastThatGoesOn_5 : decode cX1_leastThatGoesOn 5 = .ok (.if_icmp .ge 34, 3) := by decide +kernel
theorem dX1_leastThatGoesOn_8 : decode cX1_leastThatGoesOn 8 = .ok (.iload_n 1, 1) := by decide +kernel
theorem dX1_leastThatGoesOn_9 : decode cX1_leastThatGoesOn 9 = .ok (.iload_n 3, 1) := by decide +kernel
theorem dX1_leastThatGoesOn_10 : decode cX1_leastThatGoesOn 10 = .ok (.invokestatic 47, 3) := by decide +kernel
theorem dX1_leastThatGoesOn_13 : decode cX1_leastThatGoesOn 13 = .ok (.ifCond .eq 20, 3) := by decide +kernel
theorem dX1_leastThatGoesOn_16 : decode cX1_leastThatGoesOn 16 = .ok (.aload_n 0, 1) := by decide +kernel
theorem dX1_leastThatGoesOn_17 : decode cX1_leastThatGoesOn 17 = .ok (.iload_n 3, 1) := by decide +kernel
theorem dX1_leastThatGoesOn_18 : decode cX1_leastThatGoesOn 18 = .ok (.iload_n 2, 1) := by decide +kernel
theorem dX1_leastThatGoesOn_19 : decode cX1_leastThatGoesOn 19 = .ok (.iconst 1, 1) := by decide +kernel
theorem dX1_leastThatGoesOn_20 : decode cX1_leastThatGoesOn 20 = .ok (.iload_n 3, 1) := by decide +kernel
theorem dX1_leastThatGoesOn_21 : decode cX1_leastThatGoesOn 21 = .ok (.ishl, 1) := by decide +kernel
theorem dX1_leastThatGoesOn_22 : decode cX1_leastThatGoesOn 22 = .ok (.iconst (-1), 1) := by decide +kernel
theorem dX1_leastThatGoesOn_23 : decode cX1_leastThatGoesOn 23 = .ok (.ixor, 1) := by decide +kernel
theorem dX1_leastThatGoesOn_24 : decode cX1_leastThatGoesOn 24 = .ok (.iand, 1) := by decide +kernel
theorem dX1_leastThatGoesOn_25 : decode cX1_leastThatGoesOn 25 = .ok (.invokevirtual 65, 3) := by decide +kernel
theorem dX1_leastThatGoesOn_28 : decode cX1_leastThatGoesOn 28 = .ok (.ifCond .eq 5, 3) := by decide +kernel
theorem dX1_leastThatGoesOn_31 : decode cX1_leastThatGoesOn 31 = .ok (.iload_n 3, 1) := by decide +kernel
theorem dX1_leastThatGoesOn_32 : decode cX1_leastThatGoesOn 32 = .ok (.ireturn, 1) := by decide +kernel
theorem dX1_leastThatGoesOn_33 : decode cX1_leastThatGoesOn 33 = .ok (.iinc 3 1, 3) := by decide +kernel
theorem dX1_leastThatGoesOn_36 : decode cX1_leastThatGoesOn 36 = .ok (.goto (-34), 3) := by decide +kernel
theorem dX1_leastThatGoesOn_39 : decode cX1_leastThatGoesOn 39 = .ok (.iconst (-1), 1) := by decide +kernel
theorem dX1_leastThatGoesOn_40 : decode cX1_leastThatGoesOn 40 = .ok (.ireturn, 1) := by decide +kernel
set_option maxRecDepth 20000 in
theorem ggX1_goesOn_X1_partOf : GoodIn wsX1_goesOn wsX1_partOf := goodIn_r _ [6, 7, 1, 8, 9, 5, 10, 11, 12, 13, 14, 15] (by decide +kernel) (by decide +kernel)
set_option maxRecDepth 20000 in
theorem gX1_goesOn_X1_partOf : GoodIn wsX1_goesOn (wsV RX1 53 RX1 yX1_partOf wsX1_partOf) := goodIn_app (goodIn_of _ (by decide +kernel)) ggX1_goesOn_X1_partOf
theorem dX1_goesOn_0 : decode cX1_goesOn 0 = .ok (.iload_n 2, 1) := by decide +kernel
theorem dX1_goesOn_1 : decode cX1_goesOn 1 = .ok (.ifCond .eq 23, 3) := by decide +kernel
theorem dX1_goesOn_4 : decode cX1_goesOn 4 = .ok (.aload_n 0, 1) := by decide +kernel
theorem dX1_goesOn_5 : decode cX1_goesOn 5 = .ok (.getfield 24, 3) := by decide +kernel
theorem dX1_goesOn_8 : decode cX1_goesOn 8 = .ok (.iload_n 1, 1) := by decide +kernel
theorem dX1_goesOn_9 : decode cX1_goesOn 9 = .ok (.iaload, 1) := by decide +kernel
theorem dX1_goesOn_10 : decode cX1_goesOn 10 = .ok (.iload_n 2, 1) := by decide +kernel
theorem dX1_goesOn_11 : decode cX1_goesOn 11 = .ok (.iand, 1) := by decide +kernel
theorem dX1_goesOn_12 : decode cX1_goesOn 12 = .ok (.ifCond .eq 16, 3) := by decide +kernel
theorem dX1_goesOn_15 : decode cX1_goesOn 15 = .ok (.aload_n 0, 1) := by decide +kernel
theorem dX1_goesOn_16 : decode cX1_goesOn 16 = .ok (.iload_n 2, 1) := by decide +kernel
theorem dX1_goesOn_17 : decode cX1_goesOn 17 = .ok (.invokevirtual 53, 3) := by decide +kernel
theorem dX1_goesOn_20 : decode cX1_goesOn 20 = .ok (.iload_n 2, 1) := by decide +kernel
theorem dX1_goesOn_21 : decode cX1_goesOn 21 = .ok (.if_icmp .ne 7, 3) := by decide +kernel
theorem dX1_goesOn_24 : decode cX1_goesOn 24 = .ok (.iconst 1, 1) := by decide +kernel
theorem dX1_goesOn_25 : decode cX1_goesOn 25 = .ok (.goto 4, 3) := by decide +kernel
theorem dX1_goesOn_28 : decode cX1_goesOn 28 = .ok (.iconst 0, 1) := by decide +kernel
theorem dX1_goesOn_29 : decode cX1_goesOn 29 = .ok (.ireturn, 1) := by decide +kernel
theorem dX2_init_0 : decode cX2_init 0 = .ok (.aload_n 0, 1) := by decide +kernel
theorem dX2_init_1 : decode cX2_init 1 = .ok (.invokespecial 3, 3) := by decide +kernel
theorem dX2_init_4 : decode cX2_init 4 = .ok (.aload_n 0, 1) := by decide +kernel
theorem dX2_init_5 : decode cX2_init 5 = .ok (.bipush 100, 2) := by decide +kernel
theorem dX2_init_7 : decode cX2_init 7 = .ok (.newarray .int, 2) := by decide +kernel
theorem dX2_init_9 : decode cX2_init 9 = .ok (.putfield 9, 3) := by decide +kernel
theorem dX2_init_12 : decode cX2_init 12 = .ok (.aload_n 0, 1) := by decide +kernel
theorem dX2_init_13 : decode cX2_init 13 = .ok (.bipush 100, 2) := by decide +kernel
theorem dX2_init_15 : decode cX2_init 15 = .ok (.newarray .int, 2) := by decide +kernel
theorem dX2_init_17 : decode cX2_init 17 = .ok (.putfield 15, 3) := by decide +kernel
theorem dX2_init_20 : decode cX2_init 20 = .ok (.aload_n 0, 1) := by decide +kernel
theorem dX2_init_21 : decode cX2_init 21 = .ok (.bipush 100, 2) := by decide +kernel
theorem dX2_init_23 : decode cX2_init 23 = .ok (.newarray .int, 2) := by decide +kernel
theorem dX2_init_25 : decode cX2_init 25 = .ok (.putfield 18, 3) := by decide +kernel
theorem dX2_init_28 : decode cX2_init 28 = .ok (.aload_n 0, 1) := by decide +kernel
theorem dX2_init_29 : decode cX2_init 29 = .ok (.bipush 100, 2) := by decide +kernel
theorem dX2_init_31 : decode cX2_init 31 = .ok (.newarray .int, 2) := by decide +kernel
theorem dX2_init_33 : decode cX2_init 33 = .ok (.putfield 21, 3) := by decide +kernel
theorem dX2_init_36 : decode cX2_init 36 = .ok (.aload_n 0, 1) := by decide +kernel
theorem dX2_init_37 : decode cX2_init 37 = .ok (.sipush 200, 3) := by decide +kernel
theorem dX2_init_40 : decode cX2_init 40 = .ok (.newarray .int, 2) := by decide +kernel
theorem dX2_init_42 : decode cX2_init 42 = .ok (.putfield 24, 3) := by decide +kernel
theorem dX2_init_45 : decode cX2_init 45 = .ok (.aload_n 0, 1) := by decide +kernel
theorem dX2_init_46 : decode cX2_init 46 = .ok (.sipush 200, 3) := by decide +kernel
theorem dX2_init_49 : decode cX2_init 49 = .ok (.newarray .int, 2) := by decide +kernel
theorem dX2_init_51 : decode cX2_init 51 = .ok (.putfield 27, 3) := by decide +kernel
theorem dX2_init_54 : decode cX2_init 54 = .ok (.aload_n 0, 1) := by decide +kernel
theorem dX2_init_55 : decode cX2_init 55 = .ok (.sipush 200, 3) := by decide +kernel
theorem dX2_init_58 : decode cX2_init 58 = .ok (.newarray .int, 2) := by decide +kernel
theorem dX2_init_60 : decode cX2_init 60 = .ok (.putfield 30, 3) := by decide +kernel
theorem dX2_init_63 : decode cX2_init 63 = .ok (.return_, 1) := by decide +kernel
theorem dX2_isFull_0 : decode cX2_isFull 0 = .ok (.aload_n 0, 1) := by decide +kernel
theorem dX2_isFull_1 : decode cX2_isFull 1 = .ok (.getfield 33, 3) := by decide +kernel
theorem dX2_isFull_4 : decode cX2_isFull 4 = .ok (.bipush 100, 2) := by decide +kernel
theorem dX2_isFull_6 : decode cX2_isFull 6 = .ok (.if_icmp .lt 7, 3) := by decide +kernel
theorem dX2_isFull_9 : decode cX2_isFull 9 = .ok (.iconst 1, 1) := by decide +kernel
theorem dX2_isFull_10 : decode cX2_isFull 10 = .ok (.goto 4, 3) := by decide +kernel
theorem dX2_isFull_13 : decode cX2_isFull 13 = .ok (.iconst 0, 1) := by decide +kernel
theorem dX2_isFull_14 : decode cX2_isFull 14 = .ok (.ireturn, 1) := by decide +kernel
theorem dX2_size_0 : decode cX2_size 0 = .ok (.aload_n 0, 1) := by decide +kernel
theorem dX2_size_1 : decode cX2_size 1 = .ok (.getfield 33, 3) := by decide +kernel
theorem dX2_size_4 : decode cX2_size 4 = .ok (.ireturn, 1) := by decide +kernel
theorem dX2_has_0 : decode cX2_has 0 = .ok (.iload_n 1, 1) := by decide +kernel
theorem dX2_has_1 : decode cX2_has 1 = .ok (.ifCond .lt 15, 3) := by decide +kernel
theorem dX2_has_4 : decode cX2_has 4 = .ok (.iload_n 1, 1) := by decide +kernel
theorem dX2_has_5 : decode cX2_has 5 = .ok (.aload_n 0, 1) := by decide +kernel
theorem dX2_has_6 : decode cX2_has 6 = .ok (.getfield 33, 3) := by decide +kernel
theorem dX2_has_9 : decode cX2_has 9 = .ok (.if_icmp .ge 7, 3) := by decide +kernel
theorem dX2_has_12 : decode cX2_has 12 = .ok (.iconst 1, 1) := by decide +kernel
theorem dX2_has_13 : decode cX2_has 13 = .ok (.goto 4, 3) := by decide +kernel
theorem dX2_has_16 : decode cX2_has 16 = .ok (.iconst 0, 1) := by decide +kernel
theorem dX2_has_17 : decode cX2_has 17 = .ok (.ireturn, 1) := by decide +kernel
set_option maxRecDepth 20000 in
theorem ggX2_tell_X2_isFull : GoodIn wsX2_tell wsX2_isFull := goodIn_r _ [9, 2, 10, 11, 12, 13, 14, 15, 16, 17] (by decide +kernel) (by decide +kernel)
set_option maxRecDepth 20000 in
theorem gX2_tell_X2_isFull : GoodIn wsX2_tell (wsV RX2 37 RX2 yX2_isFull wsX2_isFull) := goodIn_app (goodIn_of _ (by decide +kernel)) ggX2_tell_X2_isFull
theorem dX2_tell_0 : decode cX2_tell 0 = .ok (.aload_n 0, 1) := by decide +kernel
theorem dX2_tell_1 : decode cX2_tell 1 = .ok (.invokevirtual 37, 3) := by decide +kernel
theorem dX2_tell_4 : decode cX2_tell 4 = .ok (.ifCond .eq 5, 3) := by decide +kernel
theorem dX2_tell_7 : decode cX2_tell 7 = .ok (.iconst (-1), 1) := by decide +kernel
theorem dX2_tell_8 : decode cX2_tell 8 = .ok (.ireturn, 1) := by decide +kernel
theorem dX2_tell_9 : decode cX2_tell 9 = .ok (.aload_n 0, 1) := by decide +kernel
theorem dX2_tell_10 : decode cX2_tell 10 = .ok (.getfield 9, 3) := by decide +kernel
theorem dX2_tell_13 : decode cX2_tell 13 = .ok (.aload_n 0, 1) := by decide +kernel
theorem dX2_tell_14 : decode cX2_tell 14 = .ok (.getfield 33, 3) := by decide +kernel
theorem dX2_tell_17 : decode cX2_tell 17 = .ok (.iload_n 1, 1) := by decide +kernel
theorem dX2_tell_18 : decode cX2_tell 18 = .ok (.iastore, 1) := by decide +kernel
theorem dX2_tell_19 : decode cX2_tell 19 = .ok (.aload_n 0, 1) := by decide +kernel
theorem dX2_tell_20 : decode cX2_tell 20 = .ok (.getfield 15, 3) := by decide +kernel
theorem dX2_tell_23 : decode cX2_tell 23 = .ok (.aload_n 0, 1) := by decide +kernel
theorem dX2_tell_24 : decode cX2_tell 24 = .ok (.getfield 33, 3) := by decide +kernel
theorem dX2_tell_27 : decode cX2_tell 27 = .ok (.iload_n 2, 1) := by decide +kernel
theorem dX2_tell_28 : decode cX2_tell 28 = .ok (.iastore, 1) := by decide +kernel
theorem dX2_tell_29 : decode cX2_tell 29 = .ok (.aload_n 0, 1) := by decide +kernel
theorem dX2_tell_30 : decode cX2_tell 30 = .ok (.getfield 18, 3) := by decide +kernel
theorem dX2_tell_33 : decode cX2_tell 33 = .ok (.aload_n 0, 1) := by decide +kernel
theorem dX2_tell_34 : decode cX2_tell 34 = .ok (.getfield 33, 3) := by decide +kernel
theorem dX2_tell_37 : decode cX2_tell 37 = .ok (.iconst (-1), 1) := by decide +kernel
theorem dX2_tell_38 : decode cX2_tell 38 = .ok (.iastore, 1) := by decide +kernel
theorem dX2_tell_39 : decode cX2_tell 39 = .ok (.aload_n 0, 1) := by decide +kernel
theorem dX2_tell_40 : decode cX2_tell 40 = .ok (.dup, 1) := by decide +kernel
theorem dX2_tell_41 : decode cX2_tell 41 = .ok (.getfield 33, 3) := by decide +kernel
theorem dX2_tell_44 : decode cX2_tell 44 = .ok (.iconst 1, 1) := by decide +kernel
theorem dX2_tell_45 : decode cX2_tell 45 = .ok (.iadd, 1) := by decide +kernel
theorem dX2_tell_46 : decode cX2_tell 46 = .ok (.putfield 33, 3) := by decide +kernel
theorem dX2_tell_49 : decode cX2_tell 49 = .ok (.aload_n 0, 1) := by decide +kernel
theorem dX2_tell_50 : decode cX2_tell 50 = .ok (.getfield 33, 3) := by decide +kernel
theorem dX2_tell_53 : decode cX2_tell 53 = .ok (.iconst 1, 1) := by decide +kernel
theorem dX2_tell_54 : decode cX2_tell 54 = .ok (.isub, 1) := by decide +kernel
theorem dX2_tell_55 : decode cX2_tell 55 = .ok (.ireturn, 1) := by decide +kernel
theorem dX2_addLimit_0 : decode cX2_addLimit 0 = .ok (.aload_n 0, 1) := by decide +kernel
theorem dX2_addLimit_1 : decode cX2_addLimit 1 = .ok (.getfield 33, 3) := by decide +kernel
theorem dX2_addLimit_4 : decode cX2_addLimit 4 = .ok (.iconst 1, 1) := by decide +kernel
theorem dX2_addLimit_5 : decode cX2_addLimit 5 = .ok (.isub, 1) := by decide +kernel
theorem dX2_addLimit_6 : decode cX2_addLimit 6 = .ok (.istore 4, 2) := by decide +kernel
theorem dX2_addLimit_8 : decode cX2_addLimit 8 = .ok (.iload 4, 2) := by decide +kernel
theorem dX2_addLimit_10 : decode cX2_addLimit 10 = .ok (.ifCond .lt 14, 3) := by decide +kernel
theorem dX2_addLimit_13 : decode cX2_addLimit 13 = .ok (.aload_n 0, 1) := by decide +kernel
theorem dX2_addLimit_14 : decode cX2_addLimit 14 = .ok (.getfield 21, 3) := by decide +kernel
theorem dX2_addLimit_17 : decode cX2_addLimit 17 = .ok (.iload 4, 2) := by decide +kernel
theorem dX2_addLimit_19 : decode cX2_addLimit 19 = .ok (.iaload, 1) := by decide +kernel
theorem dX2_addLimit_20 : decode cX2_addLimit 20 = .ok (.iconst 2, 1) := by decide +kernel
theorem dX2_addLimit_21 : decode cX2_addLimit 21 = .ok (.if_icmp .lt 4, 3) := by decide +kernel
theorem dX2_addLimit_24 : decode cX2_addLimit 24 = .ok (.return_, 1) := by decide +kernel
theorem dX2_addLimit_25 : decode cX2_addLimit 25 = .ok (.iconst 2, 1) := by decide +kernel
theorem dX2_addLimit_26 : decode cX2_addLimit 26 = .ok (.iload 4, 2) := by decide +kernel
theorem dX2_addLimit_28 : decode cX2_addLimit 28 = .ok (.imul, 1) := by decide +kernel
theorem dX2_addLimit_29 : decode cX2_addLimit 29 = .ok (.aload_n 0, 1) := by decide +kernel
theorem dX2_addLimit_30 : decode cX2_addLimit 30 = .ok (.getfield 21, 3) := by decide +kernel
theorem dX2_addLimit_33 : decode cX2_addLimit 33 = .ok (.iload 4, 2) := by decide +kernel
theorem dX2_addLimit_35 : decode cX2_addLimit 35 = .ok (.iaload, 1) := by decide +kernel
theorem dX2_addLimit_36 : decode cX2_addLimit 36 = .ok (.iadd, 1) := by decide +kernel
theorem dX2_addLimit_37 : decode cX2_addLimit 37 = .ok (.istore 5, 2) := by decide +kernel
theorem dX2_addLimit_39 : decode cX2_addLimit 39 = .ok (.aload_n 0, 1) := by decide +kernel
theorem dX2_addLimit_40 : decode cX2_addLimit 40 = .ok (.getfield 24, 3) := by decide +kernel
theorem dX2_addLimit_43 : decode cX2_addLimit 43 = .ok (.iload 5, 2) := by decide +kernel
theorem dX2_addLimit_45 : decode cX2_addLimit 45 = .ok (.iload_n 1, 1) := by decide +kernel
theorem dX2_addLimit_46 : decode cX2_addLimit 46 = .ok (.iastore, 1) := by decide +kernel
theorem dX2_addLimit_47 : decode cX2_addLimit 47 = .ok (.aload_n 0, 1) := by decide +kernel
theorem dX2_addLimit_48 : decode cX2_addLimit 48 = .ok (.getfield 27, 3) := by decide +kernel
theorem dX2_addLimit_51 : decode cX2_addLimit 51 = .ok (.iload 5, 2) := by decide +kernel
theorem dX2_addLimit_53 : decode cX2_addLimit 53 = .ok (.iload_n 2, 1) := by decide +kernel
theorem dX2_addLimit_54 : decode cX2_addLimit 54 = .ok (.iastore, 1) := by decide +kernel
theorem dX2_addLimit_55 : decode cX2_addLimit 55 = .ok (.aload_n 0, 1) := by decide +kernel
theorem dX2_addLimit_56 : decode cX2_addLimit 56 = .ok (.getfield 30, 3) := by decide +kernel
theorem dX2_addLimit_59 : decode cX2_addLimit 59 = .ok (.iload 5, 2) := by decide +kernel
theorem dX2_addLimit_61 : decode cX2_addLimit 61 = .ok (.iload_n 3, 1) := by decide +kernel
theorem dX2_addLimit_62 : decode cX2_addLimit 62 = .ok (.iastore, 1) := by decide +kernel
theorem dX2_addLimit_63 : decode cX2_addLimit 63 = .ok (.aload_n 0, 1) := by decide +kernel
theorem dX2_addLimit_64 : decode cX2_addLimit 64 = .ok (.getfield 21, 3) := by decide +kernel
theorem dX2_addLimit_67 : decode cX2_addLimit 67 = .ok (.iload 4, 2) := by decide +kernel
theorem dX2_addLimit_69 : decode cX2_addLimit 69 = .ok (.dup2, 1) := by decide +kernel
theorem dX2_addLimit_70 : decode cX2_addLimit 70 = .ok (.iaload, 1) := by decide +kernel
theorem dX2_addLimit_71 : decode cX2_addLimit 71 = .ok (.iconst 1, 1) := by decide +kernel
theorem dX2_addLimit_72 : decode cX2_addLimit 72 = .ok (.iadd, 1) := by decide +kernel
theorem dX2_addLimit_73 : decode cX2_addLimit 73 = .ok (.iastore, 1) := by decide +kernel
theorem dX2_addLimit_74 : decode cX2_addLimit 74 = .ok (.return_, 1) := by decide +kernel
set_option maxRecDepth 20000 in
theorem ggX2_crossOut_X2_has : GoodIn wsX2_crossOut wsX2_has := goodIn_r _ [6, 7, 8, 9, 10, 11, 12, 13, 14, 15] (by decide +kernel) (by decide +kernel)
set_option maxRecDepth 20000 in
theorem gX2_crossOut_X2_has : GoodIn wsX2_crossOut (wsV RX2 41 RX2 yX2_has wsX2_has) := goodIn_app (goodIn_of _ (by decide +kernel)) ggX2_crossOut_X2_has
theorem dX2_crossOut_0 : decode cX2_crossOut 0 = .ok (.aload_n 0, 1) := by decide +kernel
theorem dX2_crossOut_1 : decode cX2_crossOut 1 = .ok (.iload_n 1, 1) := by decide +kernel
theorem dX2_crossOut_2 : decode cX2_crossOut 2 = .ok (.invokevirtual 41, 3) := by decide +kernel
theorem dX2_crossOut_5 : decode cX2_crossOut 5 = .ok (.ifCond .eq 10, 3) := by decide +kernel
theorem dX2_crossOut_8 : decode cX2_crossOut 8 = .ok (.aload_n 0, 1) := by decide +kernel
theorem dX2_crossOut_9 : decode cX2_crossOut 9 = .ok (.getfield 18, 3) := by decide +kernel
theorem dX2_crossOut_12 : decode cX2_crossOut 12 = .ok (.iload_n 1, 1) := by decide +kernel
theorem dX2_crossOut_13 : decode cX2_crossOut 13 = .ok (.iload_n 2, 1) := by decide +kernel
theorem dX2_crossOut_14 : decode cX2_crossOut 14 = .ok (.iastore, 1) := by decide +kernel
theorem dX2_crossOut_15 : decode cX2_crossOut 15 = .ok (.return_, 1) := by decide +kernel
set_option maxRecDepth 20000 in
theorem ggX2_kindOf_X2_has : GoodIn wsX2_kindOf wsX2_has := goodIn_r _ [6, 7, 8, 9, 10, 11, 12, 13, 14, 15] (by decide +kernel) (by decide +kernel)
set_option maxRecDepth 20000 in
theorem gX2_kindOf_X2_has : GoodIn wsX2_kindOf (wsV RX2 41 RX2 yX2_has wsX2_has) := goodIn_app (goodIn_of _ (by decide +kernel)) ggX2_kindOf_X2_has
theorem dX2_kindOf_0 : decode cX2_kindOf 0 = .ok (.aload_n 0, 1) := by decide +kernel
theorem dX2_kindOf_1 : decode cX2_kindOf 1 = .ok (.iload_n 1, 1) := by decide +kernel
theorem dX2_kindOf_2 : decode cX2_kindOf 2 = .ok (.invokevirtual 41, 3) := by decide +kernel
theorem dX2_kindOf_5 : decode cX2_kindOf 5 = .ok (.ifCond .eq 12, 3) := by decide +kernel
theorem dX2_kindOf_8 : decode cX2_kindOf 8 = .ok (.aload_n 0, 1) := by decide +kernel
theorem dX2_kindOf_9 : decode cX2_kindOf 9 = .ok (.getfield 9, 3) := by decide +kernel
theorem dX2_kindOf_12 : decode cX2_kindOf 12 = .ok (.iload_n 1, 1) := by decide +kernel
theorem dX2_kindOf_13 : decode cX2_kindOf 13 = .ok (.iaload, 1) := by decide +kernel
theorem dX2_kindOf_14 : decode cX2_kindOf 14 = .ok (.goto 4, 3) := by decide +kernel
theorem dX2_kindOf_17 : decode cX2_kindOf 17 = .ok (.iconst (-1), 1) := by decide +kernel
theorem dX2_kindOf_18 : decode cX2_kindOf 18 = .ok (.ireturn, 1) := by decide +kernel
set_option maxRecDepth 20000 in
theorem ggX2_tellingDay_X2_has : GoodIn wsX2_tellingDay wsX2_has := goodIn_r _ [6, 7, 8, 9, 10, 11, 12, 13, 14, 15] (by decide +kernel) (by decide +kernel)
set_option maxRecDepth 20000 in
theorem gX2_tellingDay_X2_has : GoodIn wsX2_tellingDay (wsV RX2 41 RX2 yX2_has wsX2_has) := goodIn_app (goodIn_of _ (by decide +kernel)) ggX2_tellingDay_X2_has
theorem dX2_tellingDay_0 : decode cX2_tellingDay 0 = .ok (.aload_n 0, 1) := by decide +kernel
theorem dX2_tellingDay_1 : decode cX2_tellingDay 1 = .ok (.iload_n 1, 1) := by decide +kernel
theorem dX2_tellingDay_2 : decode cX2_tellingDay 2 = .ok (.invokevirtual 41, 3) := by decide +kernel
theorem dX2_tellingDay_5 : decode cX2_tellingDay 5 = .ok (.ifCond .eq 12, 3) := by decide +kernel
theorem dX2_tellingDay_8 : decode cX2_tellingDay 8 = .ok (.aload_n 0, 1) := by decide +kernel
theorem dX2_tellingDay_9 : decode cX2_tellingDay 9 = .ok (.getfield 15, 3) := by decide +kernel
theorem dX2_tellingDay_12 : decode cX2_tellingDay 12 = .ok (.iload_n 1, 1) := by decide +kernel
theorem dX2_tellingDay_13 : decode cX2_tellingDay 13 = .ok (.iaload, 1) := by decide +kernel
theorem dX2_tellingDay_14 : decode cX2_tellingDay 14 = .ok (.goto 4, 3) := by decide +kernel
theorem dX2_tellingDay_17 : decode cX2_tellingDay 17 = .ok (.iconst (-1), 1) := by decide +kernel
theorem dX2_tellingDay_18 : decode cX2_tellingDay 18 = .ok (.ireturn, 1) := by decide +kernel
set_option maxRecDepth 20000 in
theorem ggX2_crossingDay_X2_has : GoodIn wsX2_crossingDay wsX2_has := goodIn_r _ [6, 7, 8, 9, 10, 11, 12, 13, 14, 15] (by decide +kernel) (by decide +kernel)
set_option maxRecDepth 20000 in
theorem gX2_crossingDay_X2_has : GoodIn wsX2_crossingDay (wsV RX2 41 RX2 yX2_has wsX2_has) := goodIn_app (goodIn_of _ (by decide +kernel)) ggX2_crossingDay_X2_has
theorem dX2_crossingDay_0 : decode cX2_crossingDay 0 = .ok (.aload_n 0, 1) := by decide +kernel
theorem dX2_crossingDay_1 : decode cX2_crossingDay 1 = .ok (.iload_n 1, 1) := by decide +kernel
theorem dX2_crossingDay_2 : decode cX2_crossingDay 2 = .ok (.invokevirtual 41, 3) := by decide +kernel
theorem dX2_crossingDay_5 : decode cX2_crossingDay 5 = .ok (.ifCond .eq 12, 3) := by decide +kernel
theorem dX2_crossingDay_8 : decode cX2_crossingDay 8 = .ok (.aload_n 0, 1) := by decide +kernel
theorem dX2_crossingDay_9 : decode cX2_crossingDay 9 = .ok (.getfield 18, 3) := by decide +kernel
theorem dX2_crossingDay_12 : decode cX2_crossingDay 12 = .ok (.iload_n 1, 1) := by decide +kernel
theorem dX2_crossingDay_13 : decode cX2_crossingDay 13 = .ok (.iaload, 1) := by decide +kernel
theorem dX2_crossingDay_14 : decode cX2_crossingDay 14 = .ok (.goto 4, 3) := by decide +kernel
theorem dX2_crossingDay_17 : decode cX2_crossingDay 17 = .ok (.iconst (-1), 1) := by decide +kernel
theorem dX2_crossingDay_18 : decode cX2_crossingDay 18 = .ok (.ireturn, 1) := by decide +kernel
set_option maxRecDepth 20000 in
theorem ggX2_limitsOf_X2_has : GoodIn wsX2_limitsOf wsX2_has := goodIn_r _ [6, 7, 8, 9, 10, 11, 12, 13, 14, 15] (by decide +kernel) (by decide +kernel)
set_option maxRecDepth 20000 in
theorem gX2_limitsOf_X2_has : GoodIn wsX2_limitsOf (wsV RX2 41 RX2 yX2_has wsX2_has) := goodIn_app (goodIn_of _ (by decide +kernel)) ggX2_limitsOf_X2_has
theorem dX2_limitsOf_0 : decode cX2_limitsOf 0 = .ok (.aload_n 0, 1) := by decide +kernel
theorem dX2_limitsOf_1 : decode cX2_limitsOf 1 = .ok (.iload_n 1, 1) := by decide +kernel
theorem dX2_limitsOf_2 : decode cX2_limitsOf 2 = .ok (.invokevirtual 41, 3) := by decide +kernel
theorem dX2_limitsOf_5 : decode cX2_limitsOf 5 = .ok (.ifCond .eq 12, 3) := by decide +kernel
theorem dX2_limitsOf_8 : decode cX2_limitsOf 8 = .ok (.aload_n 0, 1) := by decide +kernel
theorem dX2_limitsOf_9 : decode cX2_limitsOf 9 = .ok (.getfield 21, 3) := by decide +kernel
theorem dX2_limitsOf_12 : decode cX2_limitsOf 12 = .ok (.iload_n 1, 1) := by decide +kernel
theorem dX2_limitsOf_13 : decode cX2_limitsOf 13 = .ok (.iaload, 1) := by decide +kernel
theorem dX2_limitsOf_14 : decode cX2_limitsOf 14 = .ok (.goto 4, 3) := by decide +kernel
theorem dX2_limitsOf_17 : decode cX2_limitsOf 17 = .ok (.iconst 0, 1) := by decide +kernel
theorem dX2_limitsOf_18 : decode cX2_limitsOf 18 = .ok (.ireturn, 1) := by decide +kernel
set_option maxRecDepth 20000 in
theorem ggX2_isKnown_X2_has : GoodIn wsX2_isKnown wsX2_has := goodIn_r _ [7, 8, 9, 10, 11, 12, 13, 14, 15, 16] (by decide +kernel) (by decide +kernel)
set_option maxRecDepth 20000 in
theorem gX2_isKnown_X2_has : GoodIn wsX2_isKnown (wsV RX2 41 RX2 yX2_has wsX2_has) := goodIn_app (goodIn_of _ (by decide +kernel)) ggX2_isKnown_X2_has
theorem dX2_isKnown_0 : decode cX2_isKnown 0 = .ok (.aload_n 0, 1) := by decide +kernel
theorem dX2_isKnown_1 : decode cX2_isKnown 1 = .ok (.iload_n 1, 1) := by decide +kernel
theorem dX2_isKnown_2 : decode cX2_isKnown 2 = .ok (.invokevirtual 41, 3) := by decide +kernel
theorem dX2_isKnown_5 : decode cX2_isKnown 5 = .ok (.ifCond .eq 13, 3) := by decide +kernel
theorem dX2_isKnown_8 : decode cX2_isKnown 8 = .ok (.aload_n 0, 1) := by decide +kernel
theorem dX2_isKnown_9 : decode cX2_isKnown 9 = .ok (.getfield 15, 3) := by decide +kernel
theorem dX2_isKnown_12 : decode cX2_isKnown 12 = .ok (.iload_n 1, 1) := by decide +kernel
theorem dX2_isKnown_13 : decode cX2_isKnown 13 = .ok (.iaload, 1) := by decide +kernel
theorem dX2_isKnown_14 : decode cX2_isKnown 14 = .ok (.iload_n 2, 1) := by decide +kernel
theorem dX2_isKnown_15 : decode cX2_isKnown 15 = .ok (.if_icmp .le 5, 3) := by decide +kernel
theorem dX2_isKnown_18 : decode cX2_isKnown 18 = .ok (.iconst 0, 1) := by decide +kernel
theorem dX2_isKnown_19 : decode cX2_isKnown 19 = .ok (.ireturn, 1) := by decide +kernel
theorem dX2_isKnown_20 : decode cX2_isKnown 20 = .ok (.aload_n 0, 1) := by decide +kernel
theorem dX2_isKnown_21 : decode cX2_isKnown 21 = .ok (.getfield 18, 3) := by decide +kernel
theorem dX2_isKnown_24 : decode cX2_isKnown 24 = .ok (.iload_n 1, 1) := by decide +kernel
theorem dX2_isKnown_25 : decode cX2_isKnown 25 = .ok (.iaload, 1) := by decide +kernel
theorem dX2_isKnown_26 : decode cX2_isKnown 26 = .ok (.iconst (-1), 1) := by decide +kernel
theorem dX2_isKnown_27 : decode cX2_isKnown 27 = .ok (.if_icmp .eq 13, 3) := by decide +kernel
theorem dX2_isKnown_30 : decode cX2_isKnown 30 = .ok (.aload_n 0, 1) := by decide +kernel
theorem dX2_isKnown_31 : decode cX2_isKnown 31 = .ok (.getfield 18, 3) := by decide +kernel
theorem dX2_isKnown_34 : decode cX2_isKnown 34 = .ok (.iload_n 1, 1) := by decide +kernel
theorem dX2_isKnown_35 : decode cX2_isKnown 35 = .ok (.iaload, 1) := by decide +kernel
theorem dX2_isKnown_36 : decode cX2_isKnown 36 = .ok (.iload_n 2, 1) := by decide +kernel
theorem dX2_isKnown_37 : decode cX2_isKnown 37 = .ok (.if_icmp .le 7, 3) := by decide +kernel
theorem dX2_isKnown_40 : decode cX2_isKnown 40 = .ok (.iconst 1, 1) := by decide +kernel
theorem dX2_isKnown_41 : decode cX2_isKnown 41 = .ok (.goto 4, 3) := by decide +kernel
theorem dX2_isKnown_44 : decode cX2_isKnown 44 = .ok (.iconst 0, 1) := by decide +kernel
theorem dX2_isKnown_45 : decode cX2_isKnown 45 = .ok (.ireturn, 1) := by decide +kernel
set_option maxRecDepth 20000 in
theorem ggX2_copyLimits_X2_limitsOf : GoodIn wsX2_copyLimits wsX2_limitsOf := goodIn_r _ [8, 9, 10, 11, 12, 7, 13, 14, 23, 24, 25, 26, 27, 28, 29, 30] (by decide +kernel) (by decide +kernel)
set_option maxRecDepth 20000 in
theorem gX2_copyLimits_X2_limitsOf : GoodIn wsX2_copyLimits (wsV RX2 45 RX2 yX2_limitsOf wsX2_limitsOf) := goodIn_app (goodIn_of _ (by decide +kernel)) ggX2_copyLimits_X2_limitsOf
set_option maxRecDepth 20000 in
theorem ggX2_copyLimits_X4_setLimit : GoodIn wsX2_copyLimits wsX4_setLimit := goodIn_r _ [19, 20, 21, 22, 31, 32, 33, 34, 35, 36] (by decide +kernel) (by decide +kernel)
set_option maxRecDepth 20000 in
theorem gX2_copyLimits_X4_setLimit : GoodIn wsX2_copyLimits (wsV RX2 49 RX4 yX4_setLimit wsX4_setLimit) := goodIn_app (goodIn_of _ (by decide +kernel)) ggX2_copyLimits_X4_setLimit
theorem dX2_copyLimits_0 : decode cX2_copyLimits 0 = .ok (.iload_n 3, 1) := by decide +kernel
theorem dX2_copyLimits_1 : decode cX2_copyLimits 1 = .ok (.istore 4, 2) := by decide +kernel
theorem dX2_copyLimits_3 : decode cX2_copyLimits 3 = .ok (.iconst 0, 1) := by decide +kernel
theorem dX2_copyLimits_4 : decode cX2_copyLimits 4 = .ok (.istore 5, 2) := by decide +kernel
theorem dX2_copyLimits_6 : decode cX2_copyLimits 6 = .ok (.iload 5, 2) := by decide +kernel
theorem dX2_copyLimits_8 : decode cX2_copyLimits 8 = .ok (.aload_n 0, 1) := by decide +kernel
theorem dX2_copyLimits_9 : decode cX2_copyLimits 9 = .ok (.iload_n 1, 1) := by decide +kernel
theorem dX2_copyLimits_10 : decode cX2_copyLimits 10 = .ok (.invokevirtual 45, 3) := by decide +kernel
theorem dX2_copyLimits_13 : decode cX2_copyLimits 13 = .ok (.if_icmp .ge 47, 3) := by decide +kernel
theorem dX2_copyLimits_16 : decode cX2_copyLimits 16 = .ok (.iconst 2, 1) := by decide +kernel
theorem dX2_copyLimits_17 : decode cX2_copyLimits 17 = .ok (.iload_n 1, 1) := by decide +kernel
theorem dX2_copyLimits_18 : decode cX2_copyLimits 18 = .ok (.imul, 1) := by decide +kernel
theorem dX2_copyLimits_19 : decode cX2_copyLimits 19 = .ok (.iload 5, 2) := by decide +kernel
theorem dX2_copyLimits_21 : decode cX2_copyLimits 21 = .ok (.iadd, 1) := by decide +kernel
theorem dX2_copyLimits_22 : decode cX2_copyLimits 22 = .ok (.istore 6, 2) := by decide +kernel
theorem dX2_copyLimits_24 : decode cX2_copyLimits 24 = .ok (.aload_n 2, 1) := by decide +kernel
theorem dX2_copyLimits_25 : decode cX2_copyLimits 25 = .ok (.iload 4, 2) := by decide +kernel
theorem dX2_copyLimits_27 : decode cX2_copyLimits 27 = .ok (.aload_n 0, 1) := by decide +kernel
theorem dX2_copyLimits_28 : decode cX2_copyLimits 28 = .ok (.getfield 24, 3) := by decide +kernel
theorem dX2_copyLimits_31 : decode cX2_copyLimits 31 = .ok (.iload 6, 2) := by decide +kernel
theorem dX2_copyLimits_33 : decode cX2_copyLimits 33 = .ok (.iaload, 1) := by decide +kernel
theorem dX2_copyLimits_34 : decode cX2_copyLimits 34 = .ok (.aload_n 0, 1) := by decide +kernel
theorem dX2_copyLimits_35 : decode cX2_copyLimits 35 = .ok (.getfield 27, 3) := by decide +kernel
theorem dX2_copyLimits_38 : decode cX2_copyLimits 38 = .ok (.iload 6, 2) := by decide +kernel
theorem dX2_copyLimits_40 : decode cX2_copyLimits 40 = .ok (.iaload, 1) := by decide +kernel
theorem dX2_copyLimits_41 : decode cX2_copyLimits 41 = .ok (.aload_n 0, 1) := by decide +kernel
theorem dX2_copyLimits_42 : decode cX2_copyLimits 42 = .ok (.getfield 30, 3) := by decide +kernel
theorem dX2_copyLimits_45 : decode cX2_copyLimits 45 = .ok (.iload 6, 2) := by decide +kernel
theorem dX2_copyLimits_47 : decode cX2_copyLimits 47 = .ok (.iaload, 1) := by decide +kernel
theorem dX2_copyLimits_48 : decode cX2_copyLimits 48 = .ok (.invokevirtual 49, 3) := by decide +kernel
theorem dX2_copyLimits_51 : decode cX2_copyLimits 51 = .ok (.iinc 4 1, 3) := by decide +kernel
theorem dX2_copyLimits_54 : decode cX2_copyLimits 54 = .ok (.iinc 5 1, 3) := by decide +kernel
theorem dX2_copyLimits_57 : decode cX2_copyLimits 57 = .ok (.goto (-51), 3) := by decide +kernel
theorem dX2_copyLimits_60 : decode cX2_copyLimits 60 = .ok (.iload 4, 2) := by decide +kernel
theorem dX2_copyLimits_62 : decode cX2_copyLimits 62 = .ok (.ireturn, 1) := by decide +kernel
theorem dX3_init_0 : decode cX3_init 0 = .ok (.aload_n 0, 1) := by decide +kernel
theorem dX3_init_1 : decode cX3_init 1 = .ok (.invokespecial 3, 3) := by decide +kernel
theorem dX3_init_4 : decode cX3_init 4 = .ok (.aload_n 0, 1) := by decide +kernel
theorem dX3_init_5 : decode cX3_init 5 = .ok (.bipush 10, 2) := by decide +kernel
theorem dX3_init_7 : decode cX3_init 7 = .ok (.newarray .int, 2) := by decide +kernel
theorem dX3_init_9 : decode cX3_init 9 = .ok (.putfield 9, 3) := by decide +kernel
theorem dX3_init_12 : decode cX3_init 12 = .ok (.aload_n 0, 1) := by decide +kernel
theorem dX3_init_13 : decode cX3_init 13 = .ok (.bipush 10, 2) := by decide +kernel
theorem dX3_init_15 : decode cX3_init 15 = .ok (.newarray .int, 2) := by decide +kernel
theorem dX3_init_17 : decode cX3_init 17 = .ok (.putfield 15, 3) := by decide +kernel
theorem dX3_init_20 : decode cX3_init 20 = .ok (.aload_n 0, 1) := by decide +kernel
theorem dX3_init_21 : decode cX3_init 21 = .ok (.bipush 60, 2) := by decide +kernel
theorem dX3_init_23 : decode cX3_init 23 = .ok (.newarray .int, 2) := by decide +kernel
theorem dX3_init_25 : decode cX3_init 25 = .ok (.putfield 18, 3) := by decide +kernel
theorem dX3_init_28 : decode cX3_init 28 = .ok (.aload_n 0, 1) := by decide +kernel
theorem dX3_init_29 : decode cX3_init 29 = .ok (.bipush 60, 2) := by decide +kernel
theorem dX3_init_31 : decode cX3_init 31 = .ok (.newarray .int, 2) := by decide +kernel
theorem dX3_init_33 : decode cX3_init 33 = .ok (.putfield 21, 3) := by decide +kernel
theorem dX3_init_36 : decode cX3_init 36 = .ok (.aload_n 0, 1) := by decide +kernel
theorem dX3_init_37 : decode cX3_init 37 = .ok (.bipush 60, 2) := by decide +kernel
theorem dX3_init_39 : decode cX3_init 39 = .ok (.newarray .int, 2) := by decide +kernel
theorem dX3_init_41 : decode cX3_init 41 = .ok (.putfield 24, 3) := by decide +kernel
theorem dX3_init_44 : decode cX3_init 44 = .ok (.return_, 1) := by decide +kernel
theorem dX3_hasAllLaws_0 : decode cX3_hasAllLaws 0 = .ok (.aload_n 0, 1) := by decide +kernel
theorem dX3_hasAllLaws_1 : decode cX3_hasAllLaws 1 = .ok (.getfield 27, 3) := by decide +kernel
theorem dX3_hasAllLaws_4 : decode cX3_hasAllLaws 4 = .ok (.bipush 10, 2) := by decide +kernel
theorem dX3_hasAllLaws_6 : decode cX3_hasAllLaws 6 = .ok (.if_icmp .lt 7, 3) := by decide +kernel
theorem dX3_hasAllLaws_9 : decode cX3_hasAllLaws 9 = .ok (.iconst 1, 1) := by decide +kernel
theorem dX3_hasAllLaws_10 : decode cX3_hasAllLaws 10 = .ok (.goto 4, 3) := by decide +kernel
theorem dX3_hasAllLaws_13 : decode cX3_hasAllLaws 13 = .ok (.iconst 0, 1) := by decide +kernel
theorem dX3_hasAllLaws_14 : decode cX3_hasAllLaws 14 = .ok (.ireturn, 1) := by decide +kernel
theorem dX3_hasAllDeaths_0 : decode cX3_hasAllDeaths 0 = .ok (.aload_n 0, 1) := by decide +kernel
theorem dX3_hasAllDeaths_1 : decode cX3_hasAllDeaths 1 = .ok (.getfield 31, 3) := by decide +kernel
theorem dX3_hasAllDeaths_4 : decode cX3_hasAllDeaths 4 = .ok (.bipush 60, 2) := by decide +kernel
theorem dX3_hasAllDeaths_6 : decode cX3_hasAllDeaths 6 = .ok (.if_icmp .lt 7, 3) := by decide +kernel
theorem dX3_hasAllDeaths_9 : decode cX3_hasAllDeaths 9 = .ok (.iconst 1, 1) := by decide +kernel
theorem dX3_hasAllDeaths_10 : decode cX3_hasAllDeaths 10 = .ok (.goto 4, 3) := by decide +kernel
theorem dX3_hasAllDeaths_13 : decode cX3_hasAllDeaths 13 = .ok (.iconst 0, 1) := by decide +kernel
theorem dX3_hasAllDeaths_14 : decode cX3_hasAllDeaths 14 = .ok (.ireturn, 1) := by decide +kernel
set_option maxRecDepth 20000 in
theorem ggX3_addLaw_X3_hasAllLaws : GoodIn wsX3_addLaw wsX3_hasAllLaws := goodIn_r _ [8, 2, 9, 10, 11, 12, 13, 14, 15] (by decide +kernel) (by decide +kernel)
set_option maxRecDepth 20000 in
theorem gX3_addLaw_X3_hasAllLaws : GoodIn wsX3_addLaw (wsV RX3 34 RX3 yX3_hasAllLaws wsX3_hasAllLaws) := goodIn_app (goodIn_of _ (by decide +kernel)) ggX3_addLaw_X3_hasAllLaws
theorem dX3_addLaw_0 : decode cX3_addLaw 0 = .ok (.aload_n 0, 1) := by decide +kernel
theorem dX3_addLaw_1 : decode cX3_addLaw 1 = .ok (.invokevirtual 34, 3) := by decide +kernel
theorem dX3_addLaw_4 : decode cX3_addLaw 4 = .ok (.ifCond .eq 4, 3) := by decide +kernel
theorem dX3_addLaw_7 : decode cX3_addLaw 7 = .ok (.return_, 1) := by decide +kernel
theorem dX3_addLaw_8 : decode cX3_addLaw 8 = .ok (.aload_n 0, 1) := by decide +kernel
theorem dX3_addLaw_9 : decode cX3_addLaw 9 = .ok (.getfield 9, 3) := by decide +kernel
theorem dX3_addLaw_12 : decode cX3_addLaw 12 = .ok (.aload_n 0, 1) := by decide +kernel
theorem dX3_addLaw_13 : decode cX3_addLaw 13 = .ok (.getfield 27, 3) := by decide +kernel
theorem dX3_addLaw_16 : decode cX3_addLaw 16 = .ok (.iload_n 1, 1) := by decide +kernel
theorem dX3_addLaw_17 : decode cX3_addLaw 17 = .ok (.iastore, 1) := by decide +kernel
theorem dX3_addLaw_18 : decode cX3_addLaw 18 = .ok (.aload_n 0, 1) := by decide +kernel
theorem dX3_addLaw_19 : decode cX3_addLaw 19 = .ok (.getfield 15, 3) := by decide +kernel
theorem dX3_addLaw_22 : decode cX3_addLaw 22 = .ok (.aload_n 0, 1) := by decide +kernel
theorem dX3_addLaw_23 : decode cX3_addLaw 23 = .ok (.getfield 27, 3) := by decide +kernel
theorem dX3_addLaw_26 : decode cX3_addLaw 26 = .ok (.iload_n 2, 1) := by decide +kernel
theorem dX3_addLaw_27 : decode cX3_addLaw 27 = .ok (.iastore, 1) := by decide +kernel
theorem dX3_addLaw_28 : decode cX3_addLaw 28 = .ok (.aload_n 0, 1) := by decide +kernel
theorem dX3_addLaw_29 : decode cX3_addLaw 29 = .ok (.dup, 1) := by decide +kernel
theorem dX3_addLaw_30 : decode cX3_addLaw 30 = .ok (.getfield 27, 3) := by decide +kernel
theorem dX3_addLaw_33 : decode cX3_addLaw 33 = .ok (.iconst 1, 1) := by decide +kernel
theorem dX3_addLaw_34 : decode cX3_addLaw 34 = .ok (.iadd, 1) := by decide +kernel
theorem dX3_addLaw_35 : decode cX3_addLaw 35 = .ok (.putfield 27, 3) := by decide +kernel
theorem dX3_addLaw_38 : decode cX3_addLaw 38 = .ok (.return_, 1) := by decide +kernel
set_option maxRecDepth 20000 in
theorem ggX3_addDeath_X3_hasAllDeaths : GoodIn wsX3_addDeath wsX3_hasAllDeaths := goodIn_r _ [9, 2, 10, 11, 12, 13, 14, 15, 16] (by decide +kernel) (by decide +kernel)
set_option maxRecDepth 20000 in
theorem gX3_addDeath_X3_hasAllDeaths : GoodIn wsX3_addDeath (wsV RX3 38 RX3 yX3_hasAllDeaths wsX3_hasAllDeaths) := goodIn_app (goodIn_of _ (by decide +kernel)) ggX3_addDeath_X3_hasAllDeaths
theorem dX3_addDeath_0 : decode cX3_addDeath 0 = .ok (.aload_n 0, 1) := by decide +kernel
theorem dX3_addDeath_1 : decode cX3_addDeath 1 = .ok (.invokevirtual 38, 3) := by decide +kernel
theorem dX3_addDeath_4 : decode cX3_addDeath 4 = .ok (.ifCond .eq 4, 3) := by decide +kernel
theorem dX3_addDeath_7 : decode cX3_addDeath 7 = .ok (.return_, 1) := by decide +kernel
theorem dX3_addDeath_8 : decode cX3_addDeath 8 = .ok (.aload_n 0, 1) := by decide +kernel
theorem dX3_addDeath_9 : decode cX3_addDeath 9 = .ok (.getfield 18, 3) := by decide +kernel
theorem dX3_addDeath_12 : decode cX3_addDeath 12 = .ok (.aload_n 0, 1) := by decide +kernel
theorem dX3_addDeath_13 : decode cX3_addDeath 13 = .ok (.getfield 31, 3) := by decide +kernel
theorem dX3_addDeath_16 : decode cX3_addDeath 16 = .ok (.iload_n 1, 1) := by decide +kernel
theorem dX3_addDeath_17 : decode cX3_addDeath 17 = .ok (.iastore, 1) := by decide +kernel
theorem dX3_addDeath_18 : decode cX3_addDeath 18 = .ok (.aload_n 0, 1) := by decide +kernel
theorem dX3_addDeath_19 : decode cX3_addDeath 19 = .ok (.getfield 21, 3) := by decide +kernel
theorem dX3_addDeath_22 : decode cX3_addDeath 22 = .ok (.aload_n 0, 1) := by decide +kernel
theorem dX3_addDeath_23 : decode cX3_addDeath 23 = .ok (.getfield 31, 3) := by decide +kernel
theorem dX3_addDeath_26 : decode cX3_addDeath 26 = .ok (.iload_n 2, 1) := by decide +kernel
theorem dX3_addDeath_27 : decode cX3_addDeath 27 = .ok (.iastore, 1) := by decide +kernel
theorem dX3_addDeath_28 : decode cX3_addDeath 28 = .ok (.aload_n 0, 1) := by decide +kernel
theorem dX3_addDeath_29 : decode cX3_addDeath 29 = .ok (.getfield 24, 3) := by decide +kernel
theorem dX3_addDeath_32 : decode cX3_addDeath 32 = .ok (.aload_n 0, 1) := by decide +kernel
theorem dX3_addDeath_33 : decode cX3_addDeath 33 = .ok (.getfield 31, 3) := by decide +kernel
theorem dX3_addDeath_36 : decode cX3_addDeath 36 = .ok (.iload_n 3, 1) := by decide +kernel
theorem dX3_addDeath_37 : decode cX3_addDeath 37 = .ok (.iastore, 1) := by decide +kernel
theorem dX3_addDeath_38 : decode cX3_addDeath 38 = .ok (.aload_n 0, 1) := by decide +kernel
theorem dX3_addDeath_39 : decode cX3_addDeath 39 = .ok (.dup, 1) := by decide +kernel
theorem dX3_addDeath_40 : decode cX3_addDeath 40 = .ok (.getfield 31, 3) := by decide +kernel
theorem dX3_addDeath_43 : decode cX3_addDeath 43 = .ok (.iconst 1, 1) := by decide +kernel
theorem dX3_addDeath_44 : decode cX3_addDeath 44 = .ok (.iadd, 1) := by decide +kernel
theorem dX3_addDeath_45 : decode cX3_addDeath 45 = .ok (.putfield 31, 3) := by decide +kernel
theorem dX3_addDeath_48 : decode cX3_addDeath 48 = .ok (.return_, 1) := by decide +kernel
set_option maxRecDepth 20000 in
theorem ggX3_isFreeOn_X3_lawInForce : GoodIn wsX3_isFreeOn wsX3_lawInForce := goodIn_r _ [7, 8, 9, 17, 18, 19, 20, 21, 22, 23] (by decide +kernel) (by decide +kernel)
set_option maxRecDepth 20000 in
theorem gX3_isFreeOn_X3_lawInForce : GoodIn wsX3_isFreeOn (wsV RX3 41 RX3 yX3_lawInForce wsX3_lawInForce) := goodIn_app (goodIn_of _ (by decide +kernel)) ggX3_isFreeOn_X3_lawInForce
set_option maxRecDepth 20000 in
theorem ggX3_isFreeOn_X3_deathKnown : GoodIn wsX3_isFreeOn wsX3_deathKnown := goodIn_r _ [13, 14, 15, 16, 17, 18, 19, 20, 21, 22, 23] (by decide +kernel) (by decide +kernel)
set_option maxRecDepth 20000 in
theorem gX3_isFreeOn_X3_deathKnown : GoodIn wsX3_isFreeOn (wsV RX3 45 RX3 yX3_deathKnown wsX3_deathKnown) := goodIn_app (goodIn_of _ (by decide +kernel)) ggX3_isFreeOn_X3_deathKnown
theorem dX3_isFreeOn_0 : decode cX3_isFreeOn 0 = .ok (.aload_n 0, 1) := by decide +kernel
theorem dX3_isFreeOn_1 : decode cX3_isFreeOn 1 = .ok (.iload_n 2, 1) := by decide +kernel
theorem dX3_isFreeOn_2 : decode cX3_isFreeOn 2 = .ok (.invokevirtual 41, 3) := by decide +kernel
theorem dX3_isFreeOn_5 : decode cX3_isFreeOn 5 = .ok (.istore 4, 2) := by decide +kernel
theorem dX3_isFreeOn_7 : decode cX3_isFreeOn 7 = .ok (.aload_n 0, 1) := by decide +kernel
theorem dX3_isFreeOn_8 : decode cX3_isFreeOn 8 = .ok (.iload_n 1, 1) := by decide +kernel
theorem dX3_isFreeOn_9 : decode cX3_isFreeOn 9 = .ok (.iload_n 3, 1) := by decide +kernel
theorem dX3_isFreeOn_10 : decode cX3_isFreeOn 10 = .ok (.invokevirtual 45, 3) := by decide +kernel
theorem dX3_isFreeOn_13 : decode cX3_isFreeOn 13 = .ok (.istore 5, 2) := by decide +kernel
theorem dX3_isFreeOn_15 : decode cX3_isFreeOn 15 = .ok (.iload 4, 2) := by decide +kernel
theorem dX3_isFreeOn_17 : decode cX3_isFreeOn 17 = .ok (.iconst (-1), 1) := by decide +kernel
theorem dX3_isFreeOn_18 : decode cX3_isFreeOn 18 = .ok (.if_icmp .eq 9, 3) := by decide +kernel
theorem dX3_isFreeOn_21 : decode cX3_isFreeOn 21 = .ok (.iload 5, 2) := by decide +kernel
theorem dX3_isFreeOn_23 : decode cX3_isFreeOn 23 = .ok (.iconst (-1), 1) := by decide +kernel
theorem dX3_isFreeOn_24 : decode cX3_isFreeOn 24 = .ok (.if_icmp .ne 5, 3) := by decide +kernel
theorem dX3_isFreeOn_27 : decode cX3_isFreeOn 27 = .ok (.iconst 0, 1) := by decide +kernel
theorem dX3_isFreeOn_28 : decode cX3_isFreeOn 28 = .ok (.ireturn, 1) := by decide +kernel
theorem dX3_isFreeOn_29 : decode cX3_isFreeOn 29 = .ok (.aload_n 0, 1) := by decide +kernel
theorem dX3_isFreeOn_30 : decode cX3_isFreeOn 30 = .ok (.getfield 21, 3) := by decide +kernel
theorem dX3_isFreeOn_33 : decode cX3_isFreeOn 33 = .ok (.iload 5, 2) := by decide +kernel
theorem dX3_isFreeOn_35 : decode cX3_isFreeOn 35 = .ok (.iaload, 1) := by decide +kernel
theorem dX3_isFreeOn_36 : decode cX3_isFreeOn 36 = .ok (.aload_n 0, 1) := by decide +kernel
theorem dX3_isFreeOn_37 : decode cX3_isFreeOn 37 = .ok (.getfield 15, 3) := by decide +kernel
theorem dX3_isFreeOn_40 : decode cX3_isFreeOn 40 = .ok (.iload 4, 2) := by decide +kernel
theorem dX3_isFreeOn_42 : decode cX3_isFreeOn 42 = .ok (.iaload, 1) := by decide +kernel
theorem dX3_isFreeOn_43 : decode cX3_isFreeOn 43 = .ok (.iadd, 1) := by decide +kernel
theorem dX3_isFreeOn_44 : decode cX3_isFreeOn 44 = .ok (.iload_n 2, 1) := by decide +kernel
theorem dX3_isFreeOn_45 : decode cX3_isFreeOn 45 = .ok (.if_icmp .gt 7, 3) := by decide +kernel
theorem dX3_isFreeOn_48 : decode cX3_isFreeOn 48 = .ok (.iconst 1, 1) := by decide +kernel
theorem dX3_isFreeOn_49 : decode cX3_isFreeOn 49 = .ok (.goto 4, 3) := by decide +kernel
theorem dX3_isFreeOn_52 : decode cX3_isFreeOn 52 = .ok (.iconst 0, 1) := by decide +kernel
theorem dX3_isFreeOn_53 : decode cX3_isFreeOn 53 = .ok (.ireturn, 1) := by decide +kernel
theorem dX3_lawInForce_0 : decode cX3_lawInForce 0 = .ok (.iconst (-1), 1) := by decide +kernel
theorem dX3_lawInForce_1 : decode cX3_lawInForce 1 = .ok (.istore_n 2, 1) := by decide +kernel
theorem dX3_lawInForce_2 : decode cX3_lawInForce 2 = .ok (.iconst 0, 1) := by decide +kernel
theorem dX3_lawInForce_3 : decode cX3_lawInForce 3 = .ok (.istore_n 3, 1) := by decide +kernel
theorem dX3_lawInForce_4 : decode cX3_lawInForce 4 = .ok (.iload_n 3, 1) := by decide +kernel
theorem dX3_lawInForce_5 : decode cX3_lawInForce 5 = .ok (.aload_n 0, 1) := by decide +kernel
theorem dX3_lawInForce_6 : decode cX3_lawInForce 6 = .ok (.getfield 27, 3) := by decide +kernel
theorem dX3_lawInForce_9 : decode cX3_lawInForce 9 = .ok (.if_icmp .ge 41, 3) := by decide +kernel
theorem dX3_lawInForce_12 : decode cX3_lawInForce 12 = .ok (.aload_n 0, 1) := by decide +kernel
theorem dX3_lawInForce_13 : decode cX3_lawInForce 13 = .ok (.getfield 9, 3) := by decide +kernel
theorem dX3_lawInForce_16 : decode cX3_lawInForce 16 = .ok (.iload_n 3, 1) := by decide +kernel
theorem dX3_lawInForce_17 : decode cX3_lawInForce 17 = .ok (.iaload, 1) := by decide +kernel
theorem dX3_lawInForce_18 : decode cX3_lawInForce 18 = .ok (.iload_n 1, 1) := by decide +kernel
theorem dX3_lawInForce_19 : decode cX3_lawInForce 19 = .ok (.if_icmp .gt 25, 3) := by decide +kernel
theorem dX3_lawInForce_22 : decode cX3_lawInForce 22 = .ok (.iload_n 2, 1) := by decide +kernel
theorem dX3_lawInForce_23 : decode cX3_lawInForce 23 = .ok (.iconst (-1), 1) := by decide +kernel
theorem dX3_lawInForce_24 : decode cX3_lawInForce 24 = .ok (.if_icmp .eq 18, 3) := by decide +kernel
theorem dX3_lawInForce_27 : decode cX3_lawInForce 27 = .ok (.aload_n 0, 1) := by decide +kernel
theorem dX3_lawInForce_28 : decode cX3_lawInForce 28 = .ok (.getfield 9, 3) := by decide +kernel
theorem dX3_lawInForce_31 : decode cX3_lawInForce 31 = .ok (.iload_n 3, 1) := by decide +kernel
theorem dX3_lawInForce_32 : decode cX3_lawInForce 32 = .ok (.iaload, 1) := by decide +kernel
theorem dX3_lawInForce_33 : decode cX3_lawInForce 33 = .ok (.aload_n 0, 1) := by decide +kernel
theorem dX3_lawInForce_34 : decode cX3_lawInForce 34 = .ok (.getfield 9, 3) := by decide +kernel
theorem dX3_lawInForce_37 : decode cX3_lawInForce 37 = .ok (.iload_n 2, 1) := by decide +kernel
theorem dX3_lawInForce_38 : decode cX3_lawInForce 38 = .ok (.iaload, 1) := by decide +kernel
theorem dX3_lawInForce_39 : decode cX3_lawInForce 39 = .ok (.if_icmp .lt 5, 3) := by decide +kernel
theorem dX3_lawInForce_42 : decode cX3_lawInForce 42 = .ok (.iload_n 3, 1) := by decide +kernel
theorem dX3_lawInForce_43 : decode cX3_lawInForce 43 = .ok (.istore_n 2, 1) := by decide +kernel
theorem dX3_lawInForce_44 : decode cX3_lawInForce 44 = .ok (.iinc 3 1, 3) := by decide +kernel
theorem dX3_lawInForce_47 : decode cX3_lawInForce 47 = .ok (.goto (-43), 3) := by decide +kernel
theorem dX3_lawInForce_50 : decode cX3_lawInForce 50 = .ok (.iload_n 2, 1) := by decide +kernel
theorem dX3_lawInForce_51 : decode cX3_lawInForce 51 = .ok (.ireturn, 1) := by decide +kernel
theorem dX3_deathKnown_0 : decode cX3_deathKnown 0 = .ok (.iconst (-1), 1) := by decide +kernel
theorem dX3_deathKnown_1 : decode cX3_deathKnown 1 = .ok (.istore_n 3, 1) := by decide +kernel
theorem dX3_deathKnown_2 : decode cX3_deathKnown 2 = .ok (.iconst 0, 1) := by decide +kernel
theorem dX3_deathKnown_3 : decode cX3_deathKnown 3 = .ok (.istore 4, 2) := by decide +kernel
theorem dX3_deathKnown_5 : decode cX3_deathKnown 5 = .ok (.iload 4, 2) := by decide +kernel
theorem dX3_deathKnown_7 : decode cX3_deathKnown 7 = .ok (.aload_n 0, 1) := by decide +kernel
theorem dX3_deathKnown_8 : decode cX3_deathKnown 8 = .ok (.getfield 31, 3) := by decide +kernel
theorem dX3_deathKnown_11 : decode cX3_deathKnown 11 = .ok (.if_icmp .ge 67, 3) := by decide +kernel
theorem dX3_deathKnown_14 : decode cX3_deathKnown 14 = .ok (.aload_n 0, 1) := by decide +kernel
theorem dX3_deathKnown_15 : decode cX3_deathKnown 15 = .ok (.getfield 18, 3) := by decide +kernel
theorem dX3_deathKnown_18 : decode cX3_deathKnown 18 = .ok (.iload 4, 2) := by decide +kernel
theorem dX3_deathKnown_20 : decode cX3_deathKnown 20 = .ok (.iaload, 1) := by decide +kernel
theorem dX3_deathKnown_21 : decode cX3_deathKnown 21 = .ok (.iload_n 1, 1) := by decide +kernel
theorem dX3_deathKnown_22 : decode cX3_deathKnown 22 = .ok (.if_icmp .ne 18, 3) := by decide +kernel
theorem dX3_deathKnown_25 : decode cX3_deathKnown 25 = .ok (.aload_n 0, 1) := by decide +kernel
theorem dX3_deathKnown_26 : decode cX3_deathKnown 26 = .ok (.getfield 24, 3) := by decide +kernel
theorem dX3_deathKnown_29 : decode cX3_deathKnown 29 = .ok (.iload 4, 2) := by decide +kernel
theorem dX3_deathKnown_31 : decode cX3_deathKnown 31 = .ok (.iaload, 1) := by decide +kernel
theorem dX3_deathKnown_32 : decode cX3_deathKnown 32 = .ok (.iload_n 2, 1) := by decide +kernel
theorem dX3_deathKnown_33 : decode cX3_deathKnown 33 = .ok (.if_icmp .gt 7, 3) := by decide +kernel
theorem dX3_deathKnown_36 : decode cX3_deathKnown 36 = .ok (.iconst 1, 1) := by decide +kernel
theorem dX3_deathKnown_37 : decode cX3_deathKnown 37 = .ok (.goto 4, 3) := by decide +kernel
theorem dX3_deathKnown_40 : decode cX3_deathKnown 40 = .ok (.iconst 0, 1) := by decide +kernel
theorem dX3_deathKnown_41 : decode cX3_deathKnown 41 = .ok (.istore 5, 2) := by decide +kernel
theorem dX3_deathKnown_43 : decode cX3_deathKnown 43 = .ok (.iload 5, 2) := by decide +kernel
theorem dX3_deathKnown_45 : decode cX3_deathKnown 45 = .ok (.ifCond .eq 27, 3) := by decide +kernel
theorem dX3_deathKnown_48 : decode cX3_deathKnown 48 = .ok (.iload_n 3, 1) := by decide +kernel
theorem dX3_deathKnown_49 : decode cX3_deathKnown 49 = .ok (.iconst (-1), 1) := by decide +kernel
theorem dX3_deathKnown_50 : decode cX3_deathKnown 50 = .ok (.if_icmp .eq 19, 3) := by decide +kernel
theorem dX3_deathKnown_53 : decode cX3_deathKnown 53 = .ok (.aload_n 0, 1) := by decide +kernel
theorem dX3_deathKnown_54 : decode cX3_deathKnown 54 = .ok (.getfield 24, 3) := by decide +kernel
theorem dX3_deathKnown_57 : decode cX3_deathKnown 57 = .ok (.iload 4, 2) := by decide +kernel
theorem dX3_deathKnown_59 : decode cX3_deathKnown 59 = .ok (.iaload, 1) := by decide +kernel
theorem dX3_deathKnown_60 : decode cX3_deathKnown 60 = .ok (.aload_n 0, 1) := by decide +kernel
theorem dX3_deathKnown_61 : decode cX3_deathKnown 61 = .ok (.getfield 24, 3) := by decide +kernel
theorem dX3_deathKnown_64 : decode cX3_deathKnown 64 = .ok (.iload_n 3, 1) := by decide +kernel
theorem dX3_deathKnown_65 : decode cX3_deathKnown 65 = .ok (.iaload, 1) := by decide +kernel
theorem dX3_deathKnown_66 : decode cX3_deathKnown 66 = .ok (.if_icmp .lt 6, 3) := by decide +kernel
theorem dX3_deathKnown_69 : decode cX3_deathKnown 69 = .ok (.iload 4, 2) := by decide +kernel
theorem dX3_deathKnown_71 : decode cX3_deathKnown 71 = .ok (.istore_n 3, 1) := by decide +kernel
theorem dX3_deathKnown_72 : decode cX3_deathKnown 72 = .ok (.iinc 4 1, 3) := by decide +kernel
theorem dX3_deathKnown_75 : decode cX3_deathKnown 75 = .ok (.goto (-70), 3) := by decide +kernel
theorem dX3_deathKnown_78 : decode cX3_deathKnown 78 = .ok (.iload_n 3, 1) := by decide +kernel
theorem dX3_deathKnown_79 : decode cX3_deathKnown 79 = .ok (.ireturn, 1) := by decide +kernel
end
section
theorem dX4_init_0 : decode cX4_init 0 = .ok (.aload_n 0, 1) := by decide +kernel
theorem dX4_init_1 : decode cX4_init 1 = .ok (.invokespecial 3, 3) := by decide +kernel
theorem dX4_init_4 : decode cX4_init 4 = .ok (.aload_n 0, 1) := by decide +kernel
theorem dX4_init_5 : decode cX4_init 5 = .ok (.sipush 200, 3) := by decide +kernel
theorem dX4_init_8 : decode cX4_init 8 = .ok (.newarray .int, 2) := by decide +kernel
theorem dX4_init_10 : decode cX4_init 10 = .ok (.putfield 9, 3) := by decide +kernel
theorem dX4_init_13 : decode cX4_init 13 = .ok (.aload_n 0, 1) := by decide +kernel
theorem dX4_init_14 : decode cX4_init 14 = .ok (.sipush 200, 3) := by decide +kernel
theorem dX4_init_17 : decode cX4_init 17 = .ok (.newarray .int, 2) := by decide +kernel
theorem dX4_init_19 : decode cX4_init 19 = .ok (.putfield 15, 3) := by decide +kernel
theorem dX4_init_22 : decode cX4_init 22 = .ok (.aload_n 0, 1) := by decide +kernel
theorem dX4_init_23 : decode cX4_init 23 = .ok (.sipush 200, 3) := by decide +kernel
theorem dX4_init_26 : decode cX4_init 26 = .ok (.newarray .int, 2) := by decide +kernel
theorem dX4_init_28 : decode cX4_init 28 = .ok (.putfield 18, 3) := by decide +kernel
theorem dX4_init_31 : decode cX4_init 31 = .ok (.aload_n 0, 1) := by decide +kernel
theorem dX4_init_32 : decode cX4_init 32 = .ok (.bipush 53, 2) := by decide +kernel
theorem dX4_init_34 : decode cX4_init 34 = .ok (.newarray .int, 2) := by decide +kernel
theorem dX4_init_36 : decode cX4_init 36 = .ok (.putfield 21, 3) := by decide +kernel
theorem dX4_init_39 : decode cX4_init 39 = .ok (.aload_n 0, 1) := by decide +kernel
theorem dX4_init_40 : decode cX4_init 40 = .ok (.bipush 53, 2) := by decide +kernel
theorem dX4_init_42 : decode cX4_init 42 = .ok (.newarray .int, 2) := by decide +kernel
theorem dX4_init_44 : decode cX4_init 44 = .ok (.putfield 24, 3) := by decide +kernel
theorem dX4_init_47 : decode cX4_init 47 = .ok (.return_, 1) := by decide +kernel
set_option maxRecDepth 20000 in
theorem ggX4_gather_X2_size : GoodIn wsX4_gather wsX2_size := goodIn_r _ [6, 7, 44, 45, 46, 47, 48, 49, 50, 51] (by decide +kernel) (by decide +kernel)
set_option maxRecDepth 20000 in
theorem gX4_gather_X2_size : GoodIn wsX4_gather (wsV RX4 31 RX2 yX2_size wsX2_size) := goodIn_app (goodIn_of _ (by decide +kernel)) ggX4_gather_X2_size
set_option maxRecDepth 20000 in
theorem ggX4_gather_X2_isKnown : GoodIn wsX4_gather wsX2_isKnown := goodIn_r _ [11, 12, 13, 14, 15, 16, 5, 17, 7, 44, 45, 46, 47, 48, 49, 50, 51] (by decide +kernel) (by decide +kernel)
set_option maxRecDepth 20000 in
theorem gX4_gather_X2_isKnown : GoodIn wsX4_gather (wsV RX4 37 RX2 yX2_isKnown wsX2_isKnown) := goodIn_app (goodIn_of _ (by decide +kernel)) ggX4_gather_X2_isKnown
set_option maxRecDepth 20000 in
theorem ggX4_gather_X2_copyLimits : GoodIn wsX4_gather wsX2_copyLimits := goodIn_r _ [21, 22, 23, 24, 25, 26, 27, 5, 28, 29, 14, 15, 16, 17, 7, 30, 31, 32, 33, 34, 35, 36, 37, 44, 45, 46, 47, 48, 49, 50, 51, 38, 39, 40, 41, 42, 43] (by decide +kernel) (by decide +kernel)
set_option maxRecDepth 20000 in
theorem gX4_gather_X2_copyLimits : GoodIn wsX4_gather (wsV RX4 41 RX2 yX2_copyLimits wsX2_copyLimits) := goodIn_app (goodIn_of _ (by decide +kernel)) ggX4_gather_X2_copyLimits
theorem dX4_gather_0 : decode cX4_gather 0 = .ok (.aload_n 0, 1) := by decide +kernel
theorem dX4_gather_1 : decode cX4_gather 1 = .ok (.iconst 0, 1) := by decide +kernel
theorem dX4_gather_2 : decode cX4_gather 2 = .ok (.putfield 27, 3) := by decide +kernel
theorem dX4_gather_5 : decode cX4_gather 5 = .ok (.iconst 0, 1) := by decide +kernel
theorem dX4_gather_6 : decode cX4_gather 6 = .ok (.istore 4, 2) := by decide +kernel
theorem dX4_gather_8 : decode cX4_gather 8 = .ok (.iload 4, 2) := by decide +kernel
theorem dX4_gather_10 : decode cX4_gather 10 = .ok (.aload_n 1, 1) := by decide +kernel
theorem dX4_gather_11 : decode cX4_gather 11 = .ok (.invokevirtual 31, 3) := by decide +kernel
theorem dX4_gather_14 : decode cX4_gather 14 = .ok (.if_icmp .ge 40, 3) := by decide +kernel
theorem dX4_gather_17 : decode cX4_gather 17 = .ok (.iload 4, 2) := by decide +kernel
theorem dX4_gather_19 : decode cX4_gather 19 = .ok (.iload_n 3, 1) := by decide +kernel
theorem dX4_gather_20 : decode cX4_gather 20 = .ok (.if_icmp .eq 28, 3) := by decide +kernel
theorem dX4_gather_23 : decode cX4_gather 23 = .ok (.aload_n 1, 1) := by decide +kernel
theorem dX4_gather_24 : decode cX4_gather 24 = .ok (.iload 4, 2) := by decide +kernel
theorem dX4_gather_26 : decode cX4_gather 26 = .ok (.iload_n 2, 1) := by decide +kernel
theorem dX4_gather_27 : decode cX4_gather 27 = .ok (.invokevirtual 37, 3) := by decide +kernel
theorem dX4_gather_30 : decode cX4_gather 30 = .ok (.ifCond .eq 18, 3) := by decide +kernel
theorem dX4_gather_33 : decode cX4_gather 33 = .ok (.aload_n 0, 1) := by decide +kernel
theorem dX4_gather_34 : decode cX4_gather 34 = .ok (.aload_n 1, 1) := by decide +kernel
theorem dX4_gather_35 : decode cX4_gather 35 = .ok (.iload 4, 2) := by decide +kernel
theorem dX4_gather_37 : decode cX4_gather 37 = .ok (.aload_n 0, 1) := by decide +kernel
theorem dX4_gather_38 : decode cX4_gather 38 = .ok (.aload_n 0, 1) := by decide +kernel
theorem dX4_gather_39 : decode cX4_gather 39 = .ok (.getfield 27, 3) := by decide +kernel
theorem dX4_gather_42 : decode cX4_gather 42 = .ok (.invokevirtual 41, 3) := by decide +kernel
theorem dX4_gather_45 : decode cX4_gather 45 = .ok (.putfield 27, 3) := by decide +kernel
theorem dX4_gather_48 : decode cX4_gather 48 = .ok (.iinc 4 1, 3) := by decide +kernel
theorem dX4_gather_51 : decode cX4_gather 51 = .ok (.goto (-43), 3) := by decide +kernel
theorem dX4_gather_54 : decode cX4_gather 54 = .ok (.return_, 1) := by decide +kernel
theorem dX4_setLimit_0 : decode cX4_setLimit 0 = .ok (.iload_n 1, 1) := by decide +kernel
theorem dX4_setLimit_1 : decode cX4_setLimit 1 = .ok (.ifCond .lt 10, 3) := by decide +kernel
theorem dX4_setLimit_4 : decode cX4_setLimit 4 = .ok (.iload_n 1, 1) := by decide +kernel
theorem dX4_setLimit_5 : decode cX4_setLimit 5 = .ok (.sipush 200, 3) := by decide +kernel
theorem dX4_setLimit_8 : decode cX4_setLimit 8 = .ok (.if_icmp .lt 4, 3) := by decide +kernel
theorem dX4_setLimit_11 : decode cX4_setLimit 11 = .ok (.return_, 1) := by decide +kernel
theorem dX4_setLimit_12 : decode cX4_setLimit 12 = .ok (.aload_n 0, 1) := by decide +kernel
theorem dX4_setLimit_13 : decode cX4_setLimit 13 = .ok (.getfield 9, 3) := by decide +kernel
theorem dX4_setLimit_16 : decode cX4_setLimit 16 = .ok (.iload_n 1, 1) := by decide +kernel
theorem dX4_setLimit_17 : decode cX4_setLimit 17 = .ok (.iload_n 2, 1) := by decide +kernel
theorem dX4_setLimit_18 : decode cX4_setLimit 18 = .ok (.iastore, 1) := by decide +kernel
theorem dX4_setLimit_19 : decode cX4_setLimit 19 = .ok (.aload_n 0, 1) := by decide +kernel
theorem dX4_setLimit_20 : decode cX4_setLimit 20 = .ok (.getfield 15, 3) := by decide +kernel
theorem dX4_setLimit_23 : decode cX4_setLimit 23 = .ok (.iload_n 1, 1) := by decide +kernel
theorem dX4_setLimit_24 : decode cX4_setLimit 24 = .ok (.iload_n 3, 1) := by decide +kernel
theorem dX4_setLimit_25 : decode cX4_setLimit 25 = .ok (.iastore, 1) := by decide +kernel
theorem dX4_setLimit_26 : decode cX4_setLimit 26 = .ok (.aload_n 0, 1) := by decide +kernel
theorem dX4_setLimit_27 : decode cX4_setLimit 27 = .ok (.getfield 18, 3) := by decide +kernel
theorem dX4_setLimit_30 : decode cX4_setLimit 30 = .ok (.iload_n 1, 1) := by decide +kernel
theorem dX4_setLimit_31 : decode cX4_setLimit 31 = .ok (.iload 4, 2) := by decide +kernel
theorem dX4_setLimit_33 : decode cX4_setLimit 33 = .ok (.iastore, 1) := by decide +kernel
theorem dX4_setLimit_34 : decode cX4_setLimit 34 = .ok (.return_, 1) := by decide +kernel
theorem dX4_wayTo_0 : decode cX4_wayTo 0 = .ok (.iload_n 1, 1) := by decide +kernel
theorem dX4_wayTo_1 : decode cX4_wayTo 1 = .ok (.ifCond .lt 18, 3) := by decide +kernel
theorem dX4_wayTo_4 : decode cX4_wayTo 4 = .ok (.iload_n 1, 1) := by decide +kernel
theorem dX4_wayTo_5 : decode cX4_wayTo 5 = .ok (.bipush 53, 2) := by decide +kernel
theorem dX4_wayTo_7 : decode cX4_wayTo 7 = .ok (.if_icmp .ge 12, 3) := by decide +kernel
theorem dX4_wayTo_10 : decode cX4_wayTo 10 = .ok (.aload_n 0, 1) := by decide +kernel
theorem dX4_wayTo_11 : decode cX4_wayTo 11 = .ok (.getfield 21, 3) := by decide +kernel
theorem dX4_wayTo_14 : decode cX4_wayTo 14 = .ok (.iload_n 1, 1) := by decide +kernel
theorem dX4_wayTo_15 : decode cX4_wayTo 15 = .ok (.iaload, 1) := by decide +kernel
theorem dX4_wayTo_16 : decode cX4_wayTo 16 = .ok (.goto 5, 3) := by decide +kernel
theorem dX4_wayTo_19 : decode cX4_wayTo 19 = .ok (.ldc 45, 2) := by decide +kernel
theorem dX4_wayTo_21 : decode cX4_wayTo 21 = .ok (.ireturn, 1) := by decide +kernel
set_option maxRecDepth 20000 in
theorem ggX4_measureFrom_X4_startAt : GoodIn wsX4_measureFrom wsX4_startAt := goodIn_r _ [6, 1, 7, 8, 9, 10, 11, 12, 13, 14, 5, 15, 16, 17, 18, 19, 20, 21, 22, 23, 24, 33, 34, 35, 36, 37, 38] (by decide +kernel) (by decide +kernel)
set_option maxRecDepth 20000 in
theorem gX4_measureFrom_X4_startAt : GoodIn wsX4_measureFrom (wsV RX4 46 RX4 yX4_startAt wsX4_startAt) := goodIn_app (goodIn_of _ (by decide +kernel)) ggX4_measureFrom_X4_startAt
set_option maxRecDepth 20000 in
theorem ggX4_measureFrom_X4_followLimits : GoodIn wsX4_measureFrom wsX4_followLimits := goodIn_r _ [28, 29, 30, 31, 7, 32, 1, 33, 34, 35, 36, 37, 38] (by decide +kernel) (by decide +kernel)
set_option maxRecDepth 20000 in
theorem gX4_measureFrom_X4_followLimits : GoodIn wsX4_measureFrom (wsV RX4 50 RX4 yX4_followLimits wsX4_followLimits) := goodIn_app (goodIn_of _ (by decide +kernel)) ggX4_measureFrom_X4_followLimits
set_option maxRecDepth 20000 in
theorem ggX4_measureFrom_X4_followBounds : GoodIn wsX4_measureFrom wsX4_followBounds := goodIn_r _ [15, 1, 16, 17, 18, 19, 20, 21, 22, 5, 23, 24, 33, 34, 35, 36, 37, 38] (by decide +kernel) (by decide +kernel)
set_option maxRecDepth 20000 in
theorem gX4_measureFrom_X4_followBounds : GoodIn wsX4_measureFrom (wsV RX4 54 RX4 yX4_followBounds wsX4_followBounds) := goodIn_app (goodIn_of _ (by decide +kernel)) ggX4_measureFrom_X4_followBounds
theorem dX4_measureFrom_0 : decode cX4_measureFrom 0 = .ok (.iload_n 1, 1) := by decide +kernel
theorem dX4_measureFrom_1 : decode cX4_measureFrom 1 = .ok (.ifCond .lt 9, 3) := by decide +kernel
theorem dX4_measureFrom_4 : decode cX4_measureFrom 4 = .ok (.iload_n 1, 1) := by decide +kernel
theorem dX4_measureFrom_5 : decode cX4_measureFrom 5 = .ok (.bipush 53, 2) := by decide +kernel
theorem dX4_measureFrom_7 : decode cX4_measureFrom 7 = .ok (.if_icmp .lt 5, 3) := by decide +kernel
theorem dX4_measureFrom_10 : decode cX4_measureFrom 10 = .ok (.iconst 0, 1) := by decide +kernel
theorem dX4_measureFrom_11 : decode cX4_measureFrom 11 = .ok (.ireturn, 1) := by decide +kernel
theorem dX4_measureFrom_12 : decode cX4_measureFrom 12 = .ok (.aload_n 0, 1) := by decide +kernel
theorem dX4_measureFrom_13 : decode cX4_measureFrom 13 = .ok (.iload_n 1, 1) := by decide +kernel
theorem dX4_measureFrom_14 : decode cX4_measureFrom 14 = .ok (.iconst 0, 1) := by decide +kernel
theorem dX4_measureFrom_15 : decode cX4_measureFrom 15 = .ok (.invokevirtual 46, 3) := by decide +kernel
theorem dX4_measureFrom_18 : decode cX4_measureFrom 18 = .ok (.iconst 0, 1) := by decide +kernel
theorem dX4_measureFrom_19 : decode cX4_measureFrom 19 = .ok (.istore_n 2, 1) := by decide +kernel
theorem dX4_measureFrom_20 : decode cX4_measureFrom 20 = .ok (.iload_n 2, 1) := by decide +kernel
theorem dX4_measureFrom_21 : decode cX4_measureFrom 21 = .ok (.bipush 53, 2) := by decide +kernel
theorem dX4_measureFrom_23 : decode cX4_measureFrom 23 = .ok (.if_icmp .gt 39, 3) := by decide +kernel
theorem dX4_measureFrom_26 : decode cX4_measureFrom 26 = .ok (.aload_n 0, 1) := by decide +kernel
theorem dX4_measureFrom_27 : decode cX4_measureFrom 27 = .ok (.aload_n 0, 1) := by decide +kernel
theorem dX4_measureFrom_28 : decode cX4_measureFrom 28 = .ok (.getfield 21, 3) := by decide +kernel
theorem dX4_measureFrom_31 : decode cX4_measureFrom 31 = .ok (.iconst 0, 1) := by decide +kernel
theorem dX4_measureFrom_32 : decode cX4_measureFrom 32 = .ok (.invokevirtual 50, 3) := by decide +kernel
theorem dX4_measureFrom_35 : decode cX4_measureFrom 35 = .ok (.ifCond .ne 5, 3) := by decide +kernel
theorem dX4_measureFrom_38 : decode cX4_measureFrom 38 = .ok (.iconst 1, 1) := by decide +kernel
theorem dX4_measureFrom_39 : decode cX4_measureFrom 39 = .ok (.ireturn, 1) := by decide +kernel
theorem dX4_measureFrom_40 : decode cX4_measureFrom 40 = .ok (.aload_n 0, 1) := by decide +kernel
theorem dX4_measureFrom_41 : decode cX4_measureFrom 41 = .ok (.iconst 0, 1) := by decide +kernel
theorem dX4_measureFrom_42 : decode cX4_measureFrom 42 = .ok (.invokevirtual 54, 3) := by decide +kernel
theorem dX4_measureFrom_45 : decode cX4_measureFrom 45 = .ok (.aload_n 0, 1) := by decide +kernel
theorem dX4_measureFrom_46 : decode cX4_measureFrom 46 = .ok (.getfield 21, 3) := by decide +kernel
theorem dX4_measureFrom_49 : decode cX4_measureFrom 49 = .ok (.iload_n 1, 1) := by decide +kernel
theorem dX4_measureFrom_50 : decode cX4_measureFrom 50 = .ok (.iaload, 1) := by decide +kernel
theorem dX4_measureFrom_51 : decode cX4_measureFrom 51 = .ok (.ifCond .ge 5, 3) := by decide +kernel
theorem dX4_measureFrom_54 : decode cX4_measureFrom 54 = .ok (.iconst 0, 1) := by decide +kernel
theorem dX4_measureFrom_55 : decode cX4_measureFrom 55 = .ok (.ireturn, 1) := by decide +kernel
theorem dX4_measureFrom_56 : decode cX4_measureFrom 56 = .ok (.iinc 2 1, 3) := by decide +kernel
theorem dX4_measureFrom_59 : decode cX4_measureFrom 59 = .ok (.goto (-39), 3) := by decide +kernel
theorem dX4_measureFrom_62 : decode cX4_measureFrom 62 = .ok (.iconst 0, 1) := by decide +kernel
theorem dX4_measureFrom_63 : decode cX4_measureFrom 63 = .ok (.ireturn, 1) := by decide +kernel
set_option maxRecDepth 20000 in
theorem ggX4_fewestLimits_X4_fewerLimitsThrough : GoodIn wsX4_fewestLimits wsX4_fewerLimitsThrough := goodIn_r _ [5, 6, 7, 8, 9, 10, 11, 12, 13, 14, 15, 16, 17, 18, 4, 19, 20, 21, 22, 23, 24, 25, 26, 27, 28, 29, 30, 31, 32, 33, 34, 35, 36, 37, 38, 39, 40, 41, 42, 43, 44, 45, 46, 47] (by decide +kernel) (by decide +kernel)
set_option maxRecDepth 20000 in
theorem gX4_fewestLimits_X4_fewerLimitsThrough : GoodIn wsX4_fewestLimits (wsV RX4 58 RX4 yX4_fewerLimitsThrough wsX4_fewerLimitsThrough) := goodIn_app (goodIn_of _ (by decide +kernel)) ggX4_fewestLimits_X4_fewerLimitsThrough
theorem dX4_fewestLimits_0 : decode cX4_fewestLimits 0 = .ok (.bipush 54, 2) := by decide +kernel
theorem dX4_fewestLimits_2 : decode cX4_fewestLimits 2 = .ok (.istore_n 1, 1) := by decide +kernel
theorem dX4_fewestLimits_3 : decode cX4_fewestLimits 3 = .ok (.iconst 0, 1) := by decide +kernel
theorem dX4_fewestLimits_4 : decode cX4_fewestLimits 4 = .ok (.istore_n 2, 1) := by decide +kernel
theorem dX4_fewestLimits_5 : decode cX4_fewestLimits 5 = .ok (.iload_n 2, 1) := by decide +kernel
theorem dX4_fewestLimits_6 : decode cX4_fewestLimits 6 = .ok (.bipush 21, 2) := by decide +kernel
theorem dX4_fewestLimits_8 : decode cX4_fewestLimits 8 = .ok (.if_icmp .ge 16, 3) := by decide +kernel
theorem dX4_fewestLimits_11 : decode cX4_fewestLimits 11 = .ok (.aload_n 0, 1) := by decide +kernel
theorem dX4_fewestLimits_12 : decode cX4_fewestLimits 12 = .ok (.iload_n 2, 1) := by decide +kernel
theorem dX4_fewestLimits_13 : decode cX4_fewestLimits 13 = .ok (.iload_n 1, 1) := by decide +kernel
theorem dX4_fewestLimits_14 : decode cX4_fewestLimits 14 = .ok (.invokevirtual 58, 3) := by decide +kernel
theorem dX4_fewestLimits_17 : decode cX4_fewestLimits 17 = .ok (.istore_n 1, 1) := by decide +kernel
theorem dX4_fewestLimits_18 : decode cX4_fewestLimits 18 = .ok (.iinc 2 1, 3) := by decide +kernel
theorem dX4_fewestLimits_21 : decode cX4_fewestLimits 21 = .ok (.goto (-16), 3) := by decide +kernel
theorem dX4_fewestLimits_24 : decode cX4_fewestLimits 24 = .ok (.iload_n 1, 1) := by decide +kernel
theorem dX4_fewestLimits_25 : decode cX4_fewestLimits 25 = .ok (.ireturn, 1) := by decide +kernel
set_option maxRecDepth 20000 in
theorem ggX4_fewerLimitsThrough_X4_startAt : GoodIn wsX4_fewerLimitsThrough wsX4_startAt := goodIn_r _ [15, 5, 16, 17, 18, 19, 20, 21, 22, 23, 14, 24, 1, 2, 3, 4, 25, 26, 27, 28, 29, 38, 39, 40, 41, 42, 43] (by decide +kernel) (by decide +kernel)
set_option maxRecDepth 20000 in
theorem gX4_fewerLimitsThrough_X4_startAt : GoodIn wsX4_fewerLimitsThrough (wsV RX4 46 RX4 yX4_startAt wsX4_startAt) := goodIn_app (goodIn_of _ (by decide +kernel)) ggX4_fewerLimitsThrough_X4_startAt
set_option maxRecDepth 20000 in
theorem ggX4_fewerLimitsThrough_X4_followLimits : GoodIn wsX4_fewerLimitsThrough wsX4_followLimits := goodIn_r _ [33, 34, 35, 36, 16, 37, 5, 38, 39, 40, 41, 42, 43] (by decide +kernel) (by decide +kernel)
set_option maxRecDepth 20000 in
theorem gX4_fewerLimitsThrough_X4_followLimits : GoodIn wsX4_fewerLimitsThrough (wsV RX4 50 RX4 yX4_followLimits wsX4_followLimits) := goodIn_app (goodIn_of _ (by decide +kernel)) ggX4_fewerLimitsThrough_X4_followLimits
set_option maxRecDepth 20000 in
theorem ggX4_fewerLimitsThrough_X4_followBounds : GoodIn wsX4_fewerLimitsThrough wsX4_followBounds := goodIn_r _ [24, 5, 1, 2, 3, 4, 25, 26, 27, 14, 28, 29, 38, 39, 40, 41, 42, 43] (by decide +kernel) (by decide +kernel)
set_option maxRecDepth 20000 in
theorem gX4_fewerLimitsThrough_X4_followBounds : GoodIn wsX4_fewerLimitsThrough (wsV RX4 54 RX4 yX4_followBounds wsX4_followBounds) := goodIn_app (goodIn_of _ (by decide +kernel)) ggX4_fewerLimitsThrough_X4_followBounds
theorem dX4_fewerLimitsThrough_0 : decode cX4_fewerLimitsThrough 0 = .ok (.aload_n 0, 1) := by decide +kernel
theorem dX4_fewerLimitsThrough_1 : decode cX4_fewerLimitsThrough 1 = .ok (.iload_n 1, 1) := by decide +kernel
theorem dX4_fewerLimitsThrough_2 : decode cX4_fewerLimitsThrough 2 = .ok (.iload_n 1, 1) := by decide +kernel
theorem dX4_fewerLimitsThrough_3 : decode cX4_fewerLimitsThrough 3 = .ok (.invokevirtual 46, 3) := by decide +kernel
theorem dX4_fewerLimitsThrough_6 : decode cX4_fewerLimitsThrough 6 = .ok (.iload_n 2, 1) := by decide +kernel
theorem dX4_fewerLimitsThrough_7 : decode cX4_fewerLimitsThrough 7 = .ok (.iconst 1, 1) := by decide +kernel
theorem dX4_fewerLimitsThrough_8 : decode cX4_fewerLimitsThrough 8 = .ok (.isub, 1) := by decide +kernel
theorem dX4_fewerLimitsThrough_9 : decode cX4_fewerLimitsThrough 9 = .ok (.bipush 53, 2) := by decide +kernel
theorem dX4_fewerLimitsThrough_11 : decode cX4_fewerLimitsThrough 11 = .ok (.iload_n 1, 1) := by decide +kernel
theorem dX4_fewerLimitsThrough_12 : decode cX4_fewerLimitsThrough 12 = .ok (.isub, 1) := by decide +kernel
theorem dX4_fewerLimitsThrough_13 : decode cX4_fewerLimitsThrough 13 = .ok (.invokestatic 62, 3) := by decide +kernel
theorem dX4_fewerLimitsThrough_16 : decode cX4_fewerLimitsThrough 16 = .ok (.istore_n 3, 1) := by decide +kernel
theorem dX4_fewerLimitsThrough_17 : decode cX4_fewerLimitsThrough 17 = .ok (.iconst 1, 1) := by decide +kernel
theorem dX4_fewerLimitsThrough_18 : decode cX4_fewerLimitsThrough 18 = .ok (.istore 4, 2) := by decide +kernel
theorem dX4_fewerLimitsThrough_20 : decode cX4_fewerLimitsThrough 20 = .ok (.iload 4, 2) := by decide +kernel
theorem dX4_fewerLimitsThrough_22 : decode cX4_fewerLimitsThrough 22 = .ok (.iload_n 3, 1) := by decide +kernel
theorem dX4_fewerLimitsThrough_23 : decode cX4_fewerLimitsThrough 23 = .ok (.if_icmp .gt 55, 3) := by decide +kernel
theorem dX4_fewerLimitsThrough_26 : decode cX4_fewerLimitsThrough 26 = .ok (.aload_n 0, 1) := by decide +kernel
theorem dX4_fewerLimitsThrough_27 : decode cX4_fewerLimitsThrough 27 = .ok (.getfield 21, 3) := by decide +kernel
theorem dX4_fewerLimitsThrough_30 : decode cX4_fewerLimitsThrough 30 = .ok (.iconst 0, 1) := by decide +kernel
theorem dX4_fewerLimitsThrough_31 : decode cX4_fewerLimitsThrough 31 = .ok (.aload_n 0, 1) := by decide +kernel
theorem dX4_fewerLimitsThrough_32 : decode cX4_fewerLimitsThrough 32 = .ok (.getfield 24, 3) := by decide +kernel
theorem dX4_fewerLimitsThrough_35 : decode cX4_fewerLimitsThrough 35 = .ok (.iconst 0, 1) := by decide +kernel
theorem dX4_fewerLimitsThrough_36 : decode cX4_fewerLimitsThrough 36 = .ok (.bipush 53, 2) := by decide +kernel
theorem dX4_fewerLimitsThrough_38 : decode cX4_fewerLimitsThrough 38 = .ok (.invokestatic 67, 3) := by decide +kernel
theorem dX4_fewerLimitsThrough_41 : decode cX4_fewerLimitsThrough 41 = .ok (.aload_n 0, 1) := by decide +kernel
theorem dX4_fewerLimitsThrough_42 : decode cX4_fewerLimitsThrough 42 = .ok (.aload_n 0, 1) := by decide +kernel
theorem dX4_fewerLimitsThrough_43 : decode cX4_fewerLimitsThrough 43 = .ok (.getfield 24, 3) := by decide +kernel
theorem dX4_fewerLimitsThrough_46 : decode cX4_fewerLimitsThrough 46 = .ok (.iload_n 1, 1) := by decide +kernel
theorem dX4_fewerLimitsThrough_47 : decode cX4_fewerLimitsThrough 47 = .ok (.invokevirtual 50, 3) := by decide +kernel
theorem dX4_fewerLimitsThrough_50 : decode cX4_fewerLimitsThrough 50 = .ok (.ifCond .ne 5, 3) := by decide +kernel
theorem dX4_fewerLimitsThrough_53 : decode cX4_fewerLimitsThrough 53 = .ok (.iload_n 2, 1) := by decide +kernel
theorem dX4_fewerLimitsThrough_54 : decode cX4_fewerLimitsThrough 54 = .ok (.ireturn, 1) := by decide +kernel
theorem dX4_fewerLimitsThrough_55 : decode cX4_fewerLimitsThrough 55 = .ok (.aload_n 0, 1) := by decide +kernel
theorem dX4_fewerLimitsThrough_56 : decode cX4_fewerLimitsThrough 56 = .ok (.iload_n 1, 1) := by decide +kernel
theorem dX4_fewerLimitsThrough_57 : decode cX4_fewerLimitsThrough 57 = .ok (.invokevirtual 54, 3) := by decide +kernel
theorem dX4_fewerLimitsThrough_60 : decode cX4_fewerLimitsThrough 60 = .ok (.aload_n 0, 1) := by decide +kernel
theorem dX4_fewerLimitsThrough_61 : decode cX4_fewerLimitsThrough 61 = .ok (.getfield 21, 3) := by decide +kernel
theorem dX4_fewerLimitsThrough_64 : decode cX4_fewerLimitsThrough 64 = .ok (.iload_n 1, 1) := by decide +kernel
theorem dX4_fewerLimitsThrough_65 : decode cX4_fewerLimitsThrough 65 = .ok (.iaload, 1) := by decide +kernel
theorem dX4_fewerLimitsThrough_66 : decode cX4_fewerLimitsThrough 66 = .ok (.ifCond .ge 6, 3) := by decide +kernel
theorem dX4_fewerLimitsThrough_69 : decode cX4_fewerLimitsThrough 69 = .ok (.iload 4, 2) := by decide +kernel
theorem dX4_fewerLimitsThrough_71 : decode cX4_fewerLimitsThrough 71 = .ok (.ireturn, 1) := by decide +kernel
theorem dX4_fewerLimitsThrough_72 : decode cX4_fewerLimitsThrough 72 = .ok (.iinc 4 1, 3) := by decide +kernel
theorem dX4_fewerLimitsThrough_75 : decode cX4_fewerLimitsThrough 75 = .ok (.goto (-55), 3) := by decide +kernel
theorem dX4_fewerLimitsThrough_78 : decode cX4_fewerLimitsThrough 78 = .ok (.iload_n 2, 1) := by decide +kernel
theorem dX4_fewerLimitsThrough_79 : decode cX4_fewerLimitsThrough 79 = .ok (.ireturn, 1) := by decide +kernel
set_option maxRecDepth 20000 in
theorem ggX4_startAt_J7_fill_53178 : GoodIn wsX4_startAt wsJ7_fill_53178 := goodIn_r _ [6] (by decide +kernel) (by decide +kernel)
set_option maxRecDepth 20000 in
theorem gX4_startAt_J7_fill_53178 : GoodIn wsX4_startAt (va_wsS RX4 73 yJ7_fill_53178 wsJ7_fill_53178) := goodIn_app (goodIn_of _ (by decide +kernel)) ggX4_startAt_J7_fill_53178
set_option maxRecDepth 20000 in
theorem ggX4_startAt_X4_followBounds : GoodIn wsX4_startAt wsX4_followBounds := goodIn_r _ [11, 1, 12, 13, 14, 15, 16, 17, 18, 10, 19, 20, 21, 22, 23, 24, 25, 26] (by decide +kernel) (by decide +kernel)
set_option maxRecDepth 20000 in
theorem gX4_startAt_X4_followBounds : GoodIn wsX4_startAt (wsV RX4 54 RX4 yX4_followBounds wsX4_followBounds) := goodIn_app (goodIn_of _ (by decide +kernel)) ggX4_startAt_X4_followBounds
theorem dX4_startAt_0 : decode cX4_startAt 0 = .ok (.aload_n 0, 1) := by decide +kernel
theorem dX4_startAt_1 : decode cX4_startAt 1 = .ok (.getfield 21, 3) := by decide +kernel
theorem dX4_startAt_4 : decode cX4_startAt 4 = .ok (.ldc 45, 2) := by decide +kernel
theorem dX4_startAt_6 : decode cX4_startAt 6 = .ok (.invokestatic 73, 3) := by decide +kernel
theorem dX4_startAt_9 : decode cX4_startAt 9 = .ok (.aload_n 0, 1) := by decide +kernel
theorem dX4_startAt_10 : decode cX4_startAt 10 = .ok (.getfield 21, 3) := by decide +kernel
theorem dX4_startAt_13 : decode cX4_startAt 13 = .ok (.iload_n 1, 1) := by decide +kernel
theorem dX4_startAt_14 : decode cX4_startAt 14 = .ok (.iconst 0, 1) := by decide +kernel
theorem dX4_startAt_15 : decode cX4_startAt 15 = .ok (.iastore, 1) := by decide +kernel
theorem dX4_startAt_16 : decode cX4_startAt 16 = .ok (.aload_n 0, 1) := by decide +kernel
theorem dX4_startAt_17 : decode cX4_startAt 17 = .ok (.iload_n 2, 1) := by decide +kernel
theorem dX4_startAt_18 : decode cX4_startAt 18 = .ok (.invokevirtual 54, 3) := by decide +kernel
theorem dX4_startAt_21 : decode cX4_startAt 21 = .ok (.return_, 1) := by decide +kernel
theorem dX4_followLimits_0 : decode cX4_followLimits 0 = .ok (.iconst 0, 1) := by decide +kernel
theorem dX4_followLimits_1 : decode cX4_followLimits 1 = .ok (.istore_n 3, 1) := by decide +kernel
theorem dX4_followLimits_2 : decode cX4_followLimits 2 = .ok (.iconst 0, 1) := by decide +kernel
theorem dX4_followLimits_3 : decode cX4_followLimits 3 = .ok (.istore 4, 2) := by decide +kernel
theorem dX4_followLimits_5 : decode cX4_followLimits 5 = .ok (.iload 4, 2) := by decide +kernel
theorem dX4_followLimits_7 : decode cX4_followLimits 7 = .ok (.aload_n 0, 1) := by decide +kernel
theorem dX4_followLimits_8 : decode cX4_followLimits 8 = .ok (.getfield 27, 3) := by decide +kernel
theorem dX4_followLimits_11 : decode cX4_followLimits 11 = .ok (.if_icmp .ge 88, 3) := by decide +kernel
theorem dX4_followLimits_14 : decode cX4_followLimits 14 = .ok (.aload_n 0, 1) := by decide +kernel
theorem dX4_followLimits_15 : decode cX4_followLimits 15 = .ok (.getfield 9, 3) := by decide +kernel
theorem dX4_followLimits_18 : decode cX4_followLimits 18 = .ok (.iload 4, 2) := by decide +kernel
theorem dX4_followLimits_20 : decode cX4_followLimits 20 = .ok (.iaload, 1) := by decide +kernel
theorem dX4_followLimits_21 : decode cX4_followLimits 21 = .ok (.istore 5, 2) := by decide +kernel
theorem dX4_followLimits_23 : decode cX4_followLimits 23 = .ok (.aload_n 0, 1) := by decide +kernel
theorem dX4_followLimits_24 : decode cX4_followLimits 24 = .ok (.getfield 15, 3) := by decide +kernel
theorem dX4_followLimits_27 : decode cX4_followLimits 27 = .ok (.iload 4, 2) := by decide +kernel
theorem dX4_followLimits_29 : decode cX4_followLimits 29 = .ok (.iaload, 1) := by decide +kernel
theorem dX4_followLimits_30 : decode cX4_followLimits 30 = .ok (.istore 6, 2) := by decide +kernel
theorem dX4_followLimits_32 : decode cX4_followLimits 32 = .ok (.iload 5, 2) := by decide +kernel
theorem dX4_followLimits_34 : decode cX4_followLimits 34 = .ok (.iload_n 2, 1) := by decide +kernel
theorem dX4_followLimits_35 : decode cX4_followLimits 35 = .ok (.if_icmp .lt 58, 3) := by decide +kernel
theorem dX4_followLimits_38 : decode cX4_followLimits 38 = .ok (.iload 6, 2) := by decide +kernel
theorem dX4_followLimits_40 : decode cX4_followLimits 40 = .ok (.iload_n 2, 1) := by decide +kernel
theorem dX4_followLimits_41 : decode cX4_followLimits 41 = .ok (.if_icmp .lt 52, 3) := by decide +kernel
theorem dX4_followLimits_44 : decode cX4_followLimits 44 = .ok (.aload_n 1, 1) := by decide +kernel
theorem dX4_followLimits_45 : decode cX4_followLimits 45 = .ok (.iload 5, 2) := by decide +kernel
theorem dX4_followLimits_47 : decode cX4_followLimits 47 = .ok (.iaload, 1) := by decide +kernel
theorem dX4_followLimits_48 : decode cX4_followLimits 48 = .ok (.ldc 45, 2) := by decide +kernel
theorem dX4_followLimits_50 : decode cX4_followLimits 50 = .ok (.if_icmp .lt 6, 3) := by decide +kernel
theorem dX4_followLimits_53 : decode cX4_followLimits 53 = .ok (.goto 40, 3) := by decide +kernel
theorem dX4_followLimits_56 : decode cX4_followLimits 56 = .ok (.aload_n 1, 1) := by decide +kernel
theorem dX4_followLimits_57 : decode cX4_followLimits 57 = .ok (.iload 5, 2) := by decide +kernel
theorem dX4_followLimits_59 : decode cX4_followLimits 59 = .ok (.iaload, 1) := by decide +kernel
theorem dX4_followLimits_60 : decode cX4_followLimits 60 = .ok (.aload_n 0, 1) := by decide +kernel
theorem dX4_followLimits_61 : decode cX4_followLimits 61 = .ok (.getfield 18, 3) := by decide +kernel
theorem dX4_followLimits_64 : decode cX4_followLimits 64 = .ok (.iload 4, 2) := by decide +kernel
theorem dX4_followLimits_66 : decode cX4_followLimits 66 = .ok (.iaload, 1) := by decide +kernel
theorem dX4_followLimits_67 : decode cX4_followLimits 67 = .ok (.iadd, 1) := by decide +kernel
theorem dX4_followLimits_68 : decode cX4_followLimits 68 = .ok (.istore 7, 2) := by decide +kernel
theorem dX4_followLimits_70 : decode cX4_followLimits 70 = .ok (.iload 7, 2) := by decide +kernel
theorem dX4_followLimits_72 : decode cX4_followLimits 72 = .ok (.aload_n 0, 1) := by decide +kernel
theorem dX4_followLimits_73 : decode cX4_followLimits 73 = .ok (.getfield 21, 3) := by decide +kernel
theorem dX4_followLimits_76 : decode cX4_followLimits 76 = .ok (.iload 6, 2) := by decide +kernel
theorem dX4_followLimits_78 : decode cX4_followLimits 78 = .ok (.iaload, 1) := by decide +kernel
theorem dX4_followLimits_79 : decode cX4_followLimits 79 = .ok (.if_icmp .ge 14, 3) := by decide +kernel
theorem dX4_followLimits_82 : decode cX4_followLimits 82 = .ok (.aload_n 0, 1) := by decide +kernel
theorem dX4_followLimits_83 : decode cX4_followLimits 83 = .ok (.getfield 21, 3) := by decide +kernel
theorem dX4_followLimits_86 : decode cX4_followLimits 86 = .ok (.iload 6, 2) := by decide +kernel
theorem dX4_followLimits_88 : decode cX4_followLimits 88 = .ok (.iload 7, 2) := by decide +kernel
theorem dX4_followLimits_90 : decode cX4_followLimits 90 = .ok (.iastore, 1) := by decide +kernel
theorem dX4_followLimits_91 : decode cX4_followLimits 91 = .ok (.iconst 1, 1) := by decide +kernel
theorem dX4_followLimits_92 : decode cX4_followLimits 92 = .ok (.istore_n 3, 1) := by decide +kernel
theorem dX4_followLimits_93 : decode cX4_followLimits 93 = .ok (.iinc 4 1, 3) := by decide +kernel
theorem dX4_followLimits_96 : decode cX4_followLimits 96 = .ok (.goto (-91), 3) := by decide +kernel
theorem dX4_followLimits_99 : decode cX4_followLimits 99 = .ok (.iload_n 3, 1) := by decide +kernel
theorem dX4_followLimits_100 : decode cX4_followLimits 100 = .ok (.ireturn, 1) := by decide +kernel
set_option maxRecDepth 20000 in
theorem ggX4_followBounds_X4_followRange : GoodIn wsX4_followBounds wsX4_followRange := goodIn_r _ [10, 1, 2, 3, 4, 5, 11, 12, 13, 14, 15, 16, 17] (by decide +kernel) (by decide +kernel)
set_option maxRecDepth 20000 in
theorem gX4_followBounds_X4_followRange : GoodIn wsX4_followBounds (wsV RX4 79 RX4 yX4_followRange wsX4_followRange) := goodIn_app (goodIn_of _ (by decide +kernel)) ggX4_followBounds_X4_followRange
theorem dX4_followBounds_0 : decode cX4_followBounds 0 = .ok (.bipush 21, 2) := by decide +kernel
theorem dX4_followBounds_2 : decode cX4_followBounds 2 = .ok (.istore_n 2, 1) := by decide +kernel
theorem dX4_followBounds_3 : decode cX4_followBounds 3 = .ok (.iload_n 2, 1) := by decide +kernel
theorem dX4_followBounds_4 : decode cX4_followBounds 4 = .ok (.bipush 52, 2) := by decide +kernel
theorem dX4_followBounds_6 : decode cX4_followBounds 6 = .ok (.if_icmp .ge 32, 3) := by decide +kernel
theorem dX4_followBounds_9 : decode cX4_followBounds 9 = .ok (.aload_n 0, 1) := by decide +kernel
theorem dX4_followBounds_10 : decode cX4_followBounds 10 = .ok (.getfield 21, 3) := by decide +kernel
theorem dX4_followBounds_13 : decode cX4_followBounds 13 = .ok (.iload_n 2, 1) := by decide +kernel
theorem dX4_followBounds_14 : decode cX4_followBounds 14 = .ok (.aload_n 0, 1) := by decide +kernel
theorem dX4_followBounds_15 : decode cX4_followBounds 15 = .ok (.getfield 21, 3) := by decide +kernel
theorem dX4_followBounds_18 : decode cX4_followBounds 18 = .ok (.iload_n 2, 1) := by decide +kernel
theorem dX4_followBounds_19 : decode cX4_followBounds 19 = .ok (.iaload, 1) := by decide +kernel
theorem dX4_followBounds_20 : decode cX4_followBounds 20 = .ok (.aload_n 0, 1) := by decide +kernel
theorem dX4_followBounds_21 : decode cX4_followBounds 21 = .ok (.getfield 21, 3) := by decide +kernel
theorem dX4_followBounds_24 : decode cX4_followBounds 24 = .ok (.iload_n 2, 1) := by decide +kernel
theorem dX4_followBounds_25 : decode cX4_followBounds 25 = .ok (.iconst 1, 1) := by decide +kernel
theorem dX4_followBounds_26 : decode cX4_followBounds 26 = .ok (.iadd, 1) := by decide +kernel
theorem dX4_followBounds_27 : decode cX4_followBounds 27 = .ok (.iaload, 1) := by decide +kernel
theorem dX4_followBounds_28 : decode cX4_followBounds 28 = .ok (.invokestatic 62, 3) := by decide +kernel
theorem dX4_followBounds_31 : decode cX4_followBounds 31 = .ok (.iastore, 1) := by decide +kernel
theorem dX4_followBounds_32 : decode cX4_followBounds 32 = .ok (.iinc 2 2, 3) := by decide +kernel
theorem dX4_followBounds_35 : decode cX4_followBounds 35 = .ok (.goto (-32), 3) := by decide +kernel
theorem dX4_followBounds_38 : decode cX4_followBounds 38 = .ok (.iload_n 1, 1) := by decide +kernel
theorem dX4_followBounds_39 : decode cX4_followBounds 39 = .ok (.ifCond .ne 7, 3) := by decide +kernel
theorem dX4_followBounds_42 : decode cX4_followBounds 42 = .ok (.aload_n 0, 1) := by decide +kernel
theorem dX4_followBounds_43 : decode cX4_followBounds 43 = .ok (.invokevirtual 79, 3) := by decide +kernel
theorem dX4_followBounds_46 : decode cX4_followBounds 46 = .ok (.return_, 1) := by decide +kernel
theorem dX4_followRange_0 : decode cX4_followRange 0 = .ok (.aload_n 0, 1) := by decide +kernel
theorem dX4_followRange_1 : decode cX4_followRange 1 = .ok (.getfield 21, 3) := by decide +kernel
theorem dX4_followRange_4 : decode cX4_followRange 4 = .ok (.iconst 0, 1) := by decide +kernel
theorem dX4_followRange_5 : decode cX4_followRange 5 = .ok (.iaload, 1) := by decide +kernel
theorem dX4_followRange_6 : decode cX4_followRange 6 = .ok (.istore_n 1, 1) := by decide +kernel
theorem dX4_followRange_7 : decode cX4_followRange 7 = .ok (.iconst 0, 1) := by decide +kernel
theorem dX4_followRange_8 : decode cX4_followRange 8 = .ok (.istore_n 2, 1) := by decide +kernel
theorem dX4_followRange_9 : decode cX4_followRange 9 = .ok (.iload_n 2, 1) := by decide +kernel
theorem dX4_followRange_10 : decode cX4_followRange 10 = .ok (.bipush 53, 2) := by decide +kernel
theorem dX4_followRange_12 : decode cX4_followRange 12 = .ok (.if_icmp .ge 20, 3) := by decide +kernel
theorem dX4_followRange_15 : decode cX4_followRange 15 = .ok (.iload_n 1, 1) := by decide +kernel
theorem dX4_followRange_16 : decode cX4_followRange 16 = .ok (.aload_n 0, 1) := by decide +kernel
theorem dX4_followRange_17 : decode cX4_followRange 17 = .ok (.getfield 21, 3) := by decide +kernel
theorem dX4_followRange_20 : decode cX4_followRange 20 = .ok (.iload_n 2, 1) := by decide +kernel
theorem dX4_followRange_21 : decode cX4_followRange 21 = .ok (.iaload, 1) := by decide +kernel
theorem dX4_followRange_22 : decode cX4_followRange 22 = .ok (.invokestatic 62, 3) := by decide +kernel
theorem dX4_followRange_25 : decode cX4_followRange 25 = .ok (.istore_n 1, 1) := by decide +kernel
theorem dX4_followRange_26 : decode cX4_followRange 26 = .ok (.iinc 2 1, 3) := by decide +kernel
theorem dX4_followRange_29 : decode cX4_followRange 29 = .ok (.goto (-20), 3) := by decide +kernel
theorem dX4_followRange_32 : decode cX4_followRange 32 = .ok (.aload_n 0, 1) := by decide +kernel
theorem dX4_followRange_33 : decode cX4_followRange 33 = .ok (.getfield 21, 3) := by decide +kernel
theorem dX4_followRange_36 : decode cX4_followRange 36 = .ok (.iconst 0, 1) := by decide +kernel
theorem dX4_followRange_37 : decode cX4_followRange 37 = .ok (.iload_n 1, 1) := by decide +kernel
theorem dX4_followRange_38 : decode cX4_followRange 38 = .ok (.iastore, 1) := by decide +kernel
theorem dX4_followRange_39 : decode cX4_followRange 39 = .ok (.iconst 0, 1) := by decide +kernel
theorem dX4_followRange_40 : decode cX4_followRange 40 = .ok (.istore_n 2, 1) := by decide +kernel
theorem dX4_followRange_41 : decode cX4_followRange 41 = .ok (.iload_n 2, 1) := by decide +kernel
theorem dX4_followRange_42 : decode cX4_followRange 42 = .ok (.bipush 53, 2) := by decide +kernel
theorem dX4_followRange_44 : decode cX4_followRange 44 = .ok (.if_icmp .ge 28, 3) := by decide +kernel
theorem dX4_followRange_47 : decode cX4_followRange 47 = .ok (.aload_n 0, 1) := by decide +kernel
theorem dX4_followRange_48 : decode cX4_followRange 48 = .ok (.getfield 21, 3) := by decide +kernel
theorem dX4_followRange_51 : decode cX4_followRange 51 = .ok (.iload_n 2, 1) := by decide +kernel
theorem dX4_followRange_52 : decode cX4_followRange 52 = .ok (.aload_n 0, 1) := by decide +kernel
theorem dX4_followRange_53 : decode cX4_followRange 53 = .ok (.getfield 21, 3) := by decide +kernel
theorem dX4_followRange_56 : decode cX4_followRange 56 = .ok (.iload_n 2, 1) := by decide +kernel
theorem dX4_followRange_57 : decode cX4_followRange 57 = .ok (.iaload, 1) := by decide +kernel
theorem dX4_followRange_58 : decode cX4_followRange 58 = .ok (.iload_n 1, 1) := by decide +kernel
theorem dX4_followRange_59 : decode cX4_followRange 59 = .ok (.ldc 82, 2) := by decide +kernel
theorem dX4_followRange_61 : decode cX4_followRange 61 = .ok (.iadd, 1) := by decide +kernel
theorem dX4_followRange_62 : decode cX4_followRange 62 = .ok (.invokestatic 62, 3) := by decide +kernel
theorem dX4_followRange_65 : decode cX4_followRange 65 = .ok (.iastore, 1) := by decide +kernel
theorem dX4_followRange_66 : decode cX4_followRange 66 = .ok (.iinc 2 1, 3) := by decide +kernel
theorem dX4_followRange_69 : decode cX4_followRange 69 = .ok (.goto (-28), 3) := by decide +kernel
theorem dX4_followRange_72 : decode cX4_followRange 72 = .ok (.return_, 1) := by decide +kernel
set_option maxRecDepth 20000 in
theorem ggX5_init_X2_init : GoodIn wsX5_init wsX2_init := goodIn_r _ [28, 29, 2, 3, 24, 30, 31, 32, 33, 34, 35, 36, 83, 84, 85, 86, 87, 88, 89, 90] (by decide +kernel) (by decide +kernel)
set_option maxRecDepth 20000 in
theorem gX5_init_X2_init_n11 : GoodIn wsX5_init (wsX2_init) := ggX5_init_X2_init
set_option maxRecDepth 20000 in
theorem ggX5_init_X4_init : GoodIn wsX5_init wsX4_init := goodIn_r _ [38, 39, 2, 3, 24, 40, 41, 42, 43, 44, 101, 102, 103, 104, 105, 106] (by decide +kernel) (by decide +kernel)
set_option maxRecDepth 20000 in
theorem gX5_init_X4_init_n18 : GoodIn wsX5_init (wsX4_init) := ggX5_init_X4_init
set_option maxRecDepth 20000 in
theorem ggX5_init_X1_init : GoodIn wsX5_init wsX1_init := goodIn_r _ [47, 48, 2, 3, 24, 49, 50, 51, 52, 53, 54, 55, 56, 14, 57, 58, 59, 60, 107, 108, 109, 110, 111] (by decide +kernel) (by decide +kernel)
set_option maxRecDepth 20000 in
theorem gX5_init_X1_init : GoodIn wsX5_init (wsX1_init) := ggX5_init_X1_init
set_option maxRecDepth 20000 in
theorem ggX5_init_X0_init : GoodIn wsX5_init wsX0_init := goodIn_r _ [63, 64, 2, 3, 24, 65, 66, 67, 68, 69, 70, 71, 72, 73, 74, 112, 113, 114, 115, 116, 117] (by decide +kernel) (by decide +kernel)
set_option maxRecDepth 20000 in
theorem gX5_init_X0_init : GoodIn wsX5_init (wsX0_init) := ggX5_init_X0_init
set_option maxRecDepth 20000 in
theorem ggX5_init_X3_init : GoodIn wsX5_init wsX3_init := goodIn_r _ [76, 77, 2, 3, 24, 78, 79, 80, 81, 82, 118, 119, 120, 121, 122, 123, 124] (by decide +kernel) (by decide +kernel)
set_option maxRecDepth 20000 in
theorem gX5_init_X3_init_n39 : GoodIn wsX5_init (wsX3_init) := ggX5_init_X3_init
theorem dX5_init_0 : decode cX5_init 0 = .ok (.aload_n 0, 1) := by decide +kernel
theorem dX5_init_1 : decode cX5_init 1 = .ok (.invokespecial 3, 3) := by decide +kernel
theorem dX5_init_4 : decode cX5_init 4 = .ok (.aload_n 0, 1) := by decide +kernel
theorem dX5_init_5 : decode cX5_init 5 = .ok (.new 9, 3) := by decide +kernel
theorem dX5_init_8 : decode cX5_init 8 = .ok (.dup, 1) := by decide +kernel
theorem dX5_init_9 : decode cX5_init 9 = .ok (.invokespecial 11, 3) := by decide +kernel
theorem dX5_init_12 : decode cX5_init 12 = .ok (.putfield 12, 3) := by decide +kernel
theorem dX5_init_15 : decode cX5_init 15 = .ok (.aload_n 0, 1) := by decide +kernel
theorem dX5_init_16 : decode cX5_init 16 = .ok (.new 16, 3) := by decide +kernel
theorem dX5_init_19 : decode cX5_init 19 = .ok (.dup, 1) := by decide +kernel
theorem dX5_init_20 : decode cX5_init 20 = .ok (.invokespecial 18, 3) := by decide +kernel
theorem dX5_init_23 : decode cX5_init 23 = .ok (.putfield 19, 3) := by decide +kernel
theorem dX5_init_26 : decode cX5_init 26 = .ok (.aload_n 0, 1) := by decide +kernel
theorem dX5_init_27 : decode cX5_init 27 = .ok (.new 23, 3) := by decide +kernel
theorem dX5_init_30 : decode cX5_init 30 = .ok (.dup, 1) := by decide +kernel
theorem dX5_init_31 : decode cX5_init 31 = .ok (.invokespecial 25, 3) := by decide +kernel
theorem dX5_init_34 : decode cX5_init 34 = .ok (.putfield 26, 3) := by decide +kernel
theorem dX5_init_37 : decode cX5_init 37 = .ok (.aload_n 0, 1) := by decide +kernel
theorem dX5_init_38 : decode cX5_init 38 = .ok (.new 30, 3) := by decide +kernel
theorem dX5_init_41 : decode cX5_init 41 = .ok (.dup, 1) := by decide +kernel
theorem dX5_init_42 : decode cX5_init 42 = .ok (.invokespecial 32, 3) := by decide +kernel
theorem dX5_init_45 : decode cX5_init 45 = .ok (.putfield 33, 3) := by decide +kernel
theorem dX5_init_48 : decode cX5_init 48 = .ok (.aload_n 0, 1) := by decide +kernel
theorem dX5_init_49 : decode cX5_init 49 = .ok (.new 37, 3) := by decide +kernel
theorem dX5_init_52 : decode cX5_init 52 = .ok (.dup, 1) := by decide +kernel
theorem dX5_init_53 : decode cX5_init 53 = .ok (.invokespecial 39, 3) := by decide +kernel
theorem dX5_init_56 : decode cX5_init 56 = .ok (.putfield 40, 3) := by decide +kernel
theorem dX5_init_59 : decode cX5_init 59 = .ok (.aload_n 0, 1) := by decide +kernel
theorem dX5_init_60 : decode cX5_init 60 = .ok (.bipush 20, 2) := by decide +kernel
theorem dX5_init_62 : decode cX5_init 62 = .ok (.newarray .int, 2) := by decide +kernel
theorem dX5_init_64 : decode cX5_init 64 = .ok (.putfield 44, 3) := by decide +kernel
theorem dX5_init_67 : decode cX5_init 67 = .ok (.aload_n 0, 1) := by decide +kernel
theorem dX5_init_68 : decode cX5_init 68 = .ok (.iconst 0, 1) := by decide +kernel
theorem dX5_init_69 : decode cX5_init 69 = .ok (.putfield 48, 3) := by decide +kernel
theorem dX5_init_72 : decode cX5_init 72 = .ok (.return_, 1) := by decide +kernel
theorem dX5_status_0 : decode cX5_status 0 = .ok (.aload_n 0, 1) := by decide +kernel
theorem dX5_status_1 : decode cX5_status 1 = .ok (.getfield 48, 3) := by decide +kernel
theorem dX5_status_4 : decode cX5_status 4 = .ok (.ireturn, 1) := by decide +kernel
set_option maxRecDepth 20000 in
theorem ggX5_plate_X5_refuse : GoodIn wsX5_plate wsX5_refuse := goodIn_r _ [6, 7, 12, 13, 14, 15, 16, 17, 18, 19, 20, 21] (by decide +kernel) (by decide +kernel)
set_option maxRecDepth 20000 in
theorem gX5_plate_X5_refuse : GoodIn wsX5_plate (wsV RX5 55 RX5 yX5_refuse wsX5_refuse) := goodIn_app (goodIn_of _ (by decide +kernel)) ggX5_plate_X5_refuse
set_option maxRecDepth 20000 in
theorem ggX5_plate_X5_answer : GoodIn wsX5_plate wsX5_answer := goodIn_r _ [11, 7, 12, 13, 14, 15, 16, 17, 18, 19, 20, 21] (by decide +kernel) (by decide +kernel)
set_option maxRecDepth 20000 in
theorem gX5_plate_X5_answer : GoodIn wsX5_plate (wsV RX5 59 RX5 yX5_answer wsX5_answer) := goodIn_app (goodIn_of _ (by decide +kernel)) ggX5_plate_X5_answer
theorem dX5_plate_0 : decode cX5_plate 0 = .ok (.aload_n 0, 1) := by decide +kernel
theorem dX5_plate_1 : decode cX5_plate 1 = .ok (.getfield 52, 3) := by decide +kernel
theorem dX5_plate_4 : decode cX5_plate 4 = .ok (.bipush 20, 2) := by decide +kernel
theorem dX5_plate_6 : decode cX5_plate 6 = .ok (.if_icmp .lt 9, 3) := by decide +kernel
theorem dX5_plate_9 : decode cX5_plate 9 = .ok (.aload_n 0, 1) := by decide +kernel
theorem dX5_plate_10 : decode cX5_plate 10 = .ok (.iconst 3, 1) := by decide +kernel
theorem dX5_plate_11 : decode cX5_plate 11 = .ok (.invokevirtual 55, 3) := by decide +kernel
theorem dX5_plate_14 : decode cX5_plate 14 = .ok (.ireturn, 1) := by decide +kernel
theorem dX5_plate_15 : decode cX5_plate 15 = .ok (.aload_n 0, 1) := by decide +kernel
theorem dX5_plate_16 : decode cX5_plate 16 = .ok (.dup, 1) := by decide +kernel
theorem dX5_plate_17 : decode cX5_plate 17 = .ok (.getfield 52, 3) := by decide +kernel
theorem dX5_plate_20 : decode cX5_plate 20 = .ok (.iconst 1, 1) := by decide +kernel
theorem dX5_plate_21 : decode cX5_plate 21 = .ok (.iadd, 1) := by decide +kernel
theorem dX5_plate_22 : decode cX5_plate 22 = .ok (.putfield 52, 3) := by decide +kernel
theorem dX5_plate_25 : decode cX5_plate 25 = .ok (.aload_n 0, 1) := by decide +kernel
theorem dX5_plate_26 : decode cX5_plate 26 = .ok (.aload_n 0, 1) := by decide +kernel
theorem dX5_plate_27 : decode cX5_plate 27 = .ok (.getfield 52, 3) := by decide +kernel
theorem dX5_plate_30 : decode cX5_plate 30 = .ok (.iconst 1, 1) := by decide +kernel
theorem dX5_plate_31 : decode cX5_plate 31 = .ok (.isub, 1) := by decide +kernel
theorem dX5_plate_32 : decode cX5_plate 32 = .ok (.invokevirtual 59, 3) := by decide +kernel
theorem dX5_plate_35 : decode cX5_plate 35 = .ok (.ireturn, 1) := by decide +kernel
set_option maxRecDepth 20000 in
theorem ggX5_motif_X5_refuse : GoodIn wsX5_motif wsX5_refuse := goodIn_r _ [6, 7, 12, 13, 14, 15, 16, 17, 18, 19, 20, 21] (by decide +kernel) (by decide +kernel)
set_option maxRecDepth 20000 in
theorem gX5_motif_X5_refuse : GoodIn wsX5_motif (wsV RX5 55 RX5 yX5_refuse wsX5_refuse) := goodIn_app (goodIn_of _ (by decide +kernel)) ggX5_motif_X5_refuse
set_option maxRecDepth 20000 in
theorem ggX5_motif_X5_answer : GoodIn wsX5_motif wsX5_answer := goodIn_r _ [11, 7, 12, 13, 14, 15, 16, 17, 18, 19, 20, 21] (by decide +kernel) (by decide +kernel)
set_option maxRecDepth 20000 in
theorem gX5_motif_X5_answer : GoodIn wsX5_motif (wsV RX5 59 RX5 yX5_answer wsX5_answer) := goodIn_app (goodIn_of _ (by decide +kernel)) ggX5_motif_X5_answer
theorem dX5_motif_0 : decode cX5_motif 0 = .ok (.aload_n 0, 1) := by decide +kernel
theorem dX5_motif_1 : decode cX5_motif 1 = .ok (.getfield 62, 3) := by decide +kernel
theorem dX5_motif_4 : decode cX5_motif 4 = .ok (.bipush 16, 2) := by decide +kernel
theorem dX5_motif_6 : decode cX5_motif 6 = .ok (.if_icmp .lt 9, 3) := by decide +kernel
theorem dX5_motif_9 : decode cX5_motif 9 = .ok (.aload_n 0, 1) := by decide +kernel
theorem dX5_motif_10 : decode cX5_motif 10 = .ok (.iconst 3, 1) := by decide +kernel
theorem dX5_motif_11 : decode cX5_motif 11 = .ok (.invokevirtual 55, 3) := by decide +kernel
theorem dX5_motif_14 : decode cX5_motif 14 = .ok (.ireturn, 1) := by decide +kernel
theorem dX5_motif_15 : decode cX5_motif 15 = .ok (.aload_n 0, 1) := by decide +kernel
theorem dX5_motif_16 : decode cX5_motif 16 = .ok (.dup, 1) := by decide +kernel
theorem dX5_motif_17 : decode cX5_motif 17 = .ok (.getfield 62, 3) := by decide +kernel
theorem dX5_motif_20 : decode cX5_motif 20 = .ok (.iconst 1, 1) := by decide +kernel
theorem dX5_motif_21 : decode cX5_motif 21 = .ok (.iadd, 1) := by decide +kernel
theorem dX5_motif_22 : decode cX5_motif 22 = .ok (.putfield 62, 3) := by decide +kernel
theorem dX5_motif_25 : decode cX5_motif 25 = .ok (.aload_n 0, 1) := by decide +kernel
theorem dX5_motif_26 : decode cX5_motif 26 = .ok (.aload_n 0, 1) := by decide +kernel
theorem dX5_motif_27 : decode cX5_motif 27 = .ok (.getfield 62, 3) := by decide +kernel
theorem dX5_motif_30 : decode cX5_motif 30 = .ok (.iconst 1, 1) := by decide +kernel
theorem dX5_motif_31 : decode cX5_motif 31 = .ok (.isub, 1) := by decide +kernel
theorem dX5_motif_32 : decode cX5_motif 32 = .ok (.invokevirtual 59, 3) := by decide +kernel
theorem dX5_motif_35 : decode cX5_motif 35 = .ok (.ireturn, 1) := by decide +kernel
set_option maxRecDepth 20000 in
theorem ggX5_shows_X5_isPlate : GoodIn wsX5_shows wsX5_isPlate := goodIn_r _ [6, 7, 63, 64, 65, 66, 67, 68, 69, 70, 71, 72] (by decide +kernel) (by decide +kernel)
set_option maxRecDepth 20000 in
theorem gX5_shows_X5_isPlate : GoodIn wsX5_shows (wsV RX5 65 RX5 yX5_isPlate wsX5_isPlate) := goodIn_app (goodIn_of _ (by decide +kernel)) ggX5_shows_X5_isPlate
set_option maxRecDepth 20000 in
theorem ggX5_shows_X5_isMotif : GoodIn wsX5_shows wsX5_isMotif := goodIn_r _ [11, 12, 63, 64, 65, 66, 67, 68, 69, 70, 71, 72] (by decide +kernel) (by decide +kernel)
set_option maxRecDepth 20000 in
theorem gX5_shows_X5_isMotif : GoodIn wsX5_shows (wsV RX5 69 RX5 yX5_isMotif wsX5_isMotif) := goodIn_app (goodIn_of _ (by decide +kernel)) ggX5_shows_X5_isMotif
set_option maxRecDepth 20000 in
theorem ggX5_shows_X5_isDay : GoodIn wsX5_shows wsX5_isDay := goodIn_r _ [15, 16, 17, 5, 18] (by decide +kernel) (by decide +kernel)
set_option maxRecDepth 20000 in
theorem gX5_shows_X5_isDay : GoodIn wsX5_shows (va_wsS RX5 72 yX5_isDay wsX5_isDay) := goodIn_app (goodIn_of _ (by decide +kernel)) ggX5_shows_X5_isDay
set_option maxRecDepth 20000 in
theorem ggX5_shows_X5_whyNoFact : GoodIn wsX5_shows wsX5_whyNoFact := goodIn_r _ [22, 1, 23, 24, 5, 25, 26, 27, 28, 29, 30, 31, 63, 64, 65, 66, 67, 68, 69, 70, 71, 72, 73, 74, 75, 76, 77, 78, 79, 80] (by decide +kernel) (by decide +kernel)
set_option maxRecDepth 20000 in
theorem gX5_shows_X5_whyNoFact : GoodIn wsX5_shows (wsV RX5 75 RX5 yX5_whyNoFact wsX5_whyNoFact) := goodIn_app (goodIn_of _ (by decide +kernel)) ggX5_shows_X5_whyNoFact
set_option maxRecDepth 20000 in
theorem ggX5_shows_X5_refuse : GoodIn wsX5_shows wsX5_refuse := goodIn_r _ [35, 36, 63, 64, 65, 66, 67, 68, 69, 70, 71, 72] (by decide +kernel) (by decide +kernel)
set_option maxRecDepth 20000 in
theorem gX5_shows_X5_refuse : GoodIn wsX5_shows (wsV RX5 55 RX5 yX5_refuse wsX5_refuse) := goodIn_app (goodIn_of _ (by decide +kernel)) ggX5_shows_X5_refuse
set_option maxRecDepth 20000 in
theorem ggX5_shows_X2_tell : GoodIn wsX5_shows wsX2_tell := goodIn_r _ [40, 41, 31, 42, 43, 44, 27, 28, 29, 30, 73, 74, 75, 76, 77, 78, 79, 80] (by decide +kernel) (by decide +kernel)
set_option maxRecDepth 20000 in
theorem gX5_shows_X2_tell : GoodIn wsX5_shows (wsV RX5 79 RX2 yX2_tell wsX2_tell) := goodIn_app (goodIn_of _ (by decide +kernel)) ggX5_shows_X2_tell
set_option maxRecDepth 20000 in
theorem ggX5_shows_X5_platePoint : GoodIn wsX5_shows wsX5_platePoint := goodIn_r _ [47] (by decide +kernel) (by decide +kernel)
set_option maxRecDepth 20000 in
theorem gX5_shows_X5_platePoint : GoodIn wsX5_shows (va_wsS RX5 83 yX5_platePoint wsX5_platePoint) := goodIn_app (goodIn_of _ (by decide +kernel)) ggX5_shows_X5_platePoint
set_option maxRecDepth 20000 in
theorem ggX5_shows_X5_motifPoint : GoodIn wsX5_shows wsX5_motifPoint := goodIn_r _ [50] (by decide +kernel) (by decide +kernel)
set_option maxRecDepth 20000 in
theorem gX5_shows_X5_motifPoint : GoodIn wsX5_shows (va_wsS RX5 86 yX5_motifPoint wsX5_motifPoint) := goodIn_app (goodIn_of _ (by decide +kernel)) ggX5_shows_X5_motifPoint
set_option maxRecDepth 20000 in
theorem ggX5_shows_X2_addLimit : GoodIn wsX5_shows wsX2_addLimit := goodIn_r _ [54, 31, 55, 56, 57, 58, 73, 74, 75, 76, 77, 78, 79, 80] (by decide +kernel) (by decide +kernel)
set_option maxRecDepth 20000 in
theorem gX5_shows_X2_addLimit : GoodIn wsX5_shows (wsV RX5 90 RX2 yX2_addLimit wsX2_addLimit) := goodIn_app (goodIn_of _ (by decide +kernel)) ggX5_shows_X2_addLimit
set_option maxRecDepth 20000 in
theorem ggX5_shows_X5_answer : GoodIn wsX5_shows wsX5_answer := goodIn_r _ [62, 36, 63, 64, 65, 66, 67, 68, 69, 70, 71, 72] (by decide +kernel) (by decide +kernel)
set_option maxRecDepth 20000 in
theorem gX5_shows_X5_answer : GoodIn wsX5_shows (wsV RX5 59 RX5 yX5_answer wsX5_answer) := goodIn_app (goodIn_of _ (by decide +kernel)) ggX5_shows_X5_answer
theorem dX5_shows_0 : decode cX5_shows 0 = .ok (.aload_n 0, 1) := by decide +kernel
theorem dX5_shows_1 : decode cX5_shows 1 = .ok (.aload_n 0, 1) := by decide +kernel
theorem dX5_shows_2 : decode cX5_shows 2 = .ok (.iload_n 1, 1) := by decide +kernel
theorem dX5_shows_3 : decode cX5_shows 3 = .ok (.invokevirtual 65, 3) := by decide +kernel
theorem dX5_shows_6 : decode cX5_shows 6 = .ok (.ifCond .eq 15, 3) := by decide +kernel
theorem dX5_shows_9 : decode cX5_shows 9 = .ok (.aload_n 0, 1) := by decide +kernel
theorem dX5_shows_10 : decode cX5_shows 10 = .ok (.iload_n 2, 1) := by decide +kernel
theorem dX5_shows_11 : decode cX5_shows 11 = .ok (.invokevirtual 69, 3) := by decide +kernel
theorem dX5_shows_14 : decode cX5_shows 14 = .ok (.ifCond .eq 7, 3) := by decide +kernel
theorem dX5_shows_17 : decode cX5_shows 17 = .ok (.iconst 1, 1) := by decide +kernel
theorem dX5_shows_18 : decode cX5_shows 18 = .ok (.goto 4, 3) := by decide +kernel
theorem dX5_shows_21 : decode cX5_shows 21 = .ok (.iconst 0, 1) := by decide +kernel
theorem dX5_shows_22 : decode cX5_shows 22 = .ok (.iload_n 3, 1) := by decide +kernel
theorem dX5_shows_23 : decode cX5_shows 23 = .ok (.invokestatic 72, 3) := by decide +kernel
theorem dX5_shows_26 : decode cX5_shows 26 = .ok (.invokevirtual 75, 3) := by decide +kernel
theorem dX5_shows_29 : decode cX5_shows 29 = .ok (.istore 4, 2) := by decide +kernel
theorem dX5_shows_31 : decode cX5_shows 31 = .ok (.iload 4, 2) := by decide +kernel
theorem dX5_shows_33 : decode cX5_shows 33 = .ok (.ifCond .eq 10, 3) := by decide +kernel
theorem dX5_shows_36 : decode cX5_shows 36 = .ok (.aload_n 0, 1) := by decide +kernel
theorem dX5_shows_37 : decode cX5_shows 37 = .ok (.iload 4, 2) := by decide +kernel
theorem dX5_shows_39 : decode cX5_shows 39 = .ok (.invokevirtual 55, 3) := by decide +kernel
theorem dX5_shows_42 : decode cX5_shows 42 = .ok (.ireturn, 1) := by decide +kernel
theorem dX5_shows_43 : decode cX5_shows 43 = .ok (.aload_n 0, 1) := by decide +kernel
theorem dX5_shows_44 : decode cX5_shows 44 = .ok (.getfield 12, 3) := by decide +kernel
theorem dX5_shows_47 : decode cX5_shows 47 = .ok (.iconst 0, 1) := by decide +kernel
theorem dX5_shows_48 : decode cX5_shows 48 = .ok (.iload_n 3, 1) := by decide +kernel
theorem dX5_shows_49 : decode cX5_shows 49 = .ok (.invokevirtual 79, 3) := by decide +kernel
theorem dX5_shows_52 : decode cX5_shows 52 = .ok (.istore 5, 2) := by decide +kernel
theorem dX5_shows_54 : decode cX5_shows 54 = .ok (.aload_n 0, 1) := by decide +kernel
theorem dX5_shows_55 : decode cX5_shows 55 = .ok (.getfield 12, 3) := by decide +kernel
theorem dX5_shows_58 : decode cX5_shows 58 = .ok (.iload_n 1, 1) := by decide +kernel
theorem dX5_shows_59 : decode cX5_shows 59 = .ok (.invokestatic 83, 3) := by decide +kernel
theorem dX5_shows_62 : decode cX5_shows 62 = .ok (.iload_n 2, 1) := by decide +kernel
theorem dX5_shows_63 : decode cX5_shows 63 = .ok (.iconst 0, 1) := by decide +kernel
theorem dX5_shows_64 : decode cX5_shows 64 = .ok (.invokestatic 86, 3) := by decide +kernel
theorem dX5_shows_67 : decode cX5_shows 67 = .ok (.iconst 0, 1) := by decide +kernel
theorem dX5_shows_68 : decode cX5_shows 68 = .ok (.invokevirtual 90, 3) := by decide +kernel
theorem dX5_shows_71 : decode cX5_shows 71 = .ok (.aload_n 0, 1) := by decide +kernel
theorem dX5_shows_72 : decode cX5_shows 72 = .ok (.getfield 12, 3) := by decide +kernel
theorem dX5_shows_75 : decode cX5_shows 75 = .ok (.iload_n 2, 1) := by decide +kernel
theorem dX5_shows_76 : decode cX5_shows 76 = .ok (.iconst 1, 1) := by decide +kernel
theorem dX5_shows_77 : decode cX5_shows 77 = .ok (.invokestatic 86, 3) := by decide +kernel
theorem dX5_shows_80 : decode cX5_shows 80 = .ok (.iload_n 1, 1) := by decide +kernel
theorem dX5_shows_81 : decode cX5_shows 81 = .ok (.invokestatic 83, 3) := by decide +kernel
theorem dX5_shows_84 : decode cX5_shows 84 = .ok (.iconst 0, 1) := by decide +kernel
theorem dX5_shows_85 : decode cX5_shows 85 = .ok (.invokevirtual 90, 3) := by decide +kernel
theorem dX5_shows_88 : decode cX5_shows 88 = .ok (.aload_n 0, 1) := by decide +kernel
theorem dX5_shows_89 : decode cX5_shows 89 = .ok (.iload 5, 2) := by decide +kernel
theorem dX5_shows_91 : decode cX5_shows 91 = .ok (.invokevirtual 59, 3) := by decide +kernel
theorem dX5_shows_94 : decode cX5_shows 94 = .ok (.ireturn, 1) := by decide +kernel
set_option maxRecDepth 20000 in
theorem ggX5_ahead_X5_areTwoPlates : GoodIn wsX5_ahead wsX5_areTwoPlates := goodIn_r _ [8, 9, 10, 11, 7, 12, 13, 61, 62, 63, 64, 65, 66, 67, 68, 69, 70] (by decide +kernel) (by decide +kernel)
set_option maxRecDepth 20000 in
theorem gX5_ahead_X5_areTwoPlates : GoodIn wsX5_ahead (wsV RX5 94 RX5 yX5_areTwoPlates wsX5_areTwoPlates) := goodIn_app (goodIn_of _ (by decide +kernel)) ggX5_ahead_X5_areTwoPlates
set_option maxRecDepth 20000 in
theorem ggX5_ahead_X5_isWithin : GoodIn wsX5_ahead wsX5_isWithin := goodIn_r _ [16] (by decide +kernel) (by decide +kernel)
set_option maxRecDepth 20000 in
theorem gX5_ahead_X5_isWithin : GoodIn wsX5_ahead (va_wsS RX5 100 yX5_isWithin wsX5_isWithin) := goodIn_app (goodIn_of _ (by decide +kernel)) ggX5_ahead_X5_isWithin
set_option maxRecDepth 20000 in
theorem ggX5_ahead_X5_isDay : GoodIn wsX5_ahead wsX5_isDay := goodIn_r _ [19, 14, 15, 7, 16] (by decide +kernel) (by decide +kernel)
set_option maxRecDepth 20000 in
theorem gX5_ahead_X5_isDay : GoodIn wsX5_ahead (va_wsS RX5 72 yX5_isDay wsX5_isDay) := goodIn_app (goodIn_of _ (by decide +kernel)) ggX5_ahead_X5_isDay
set_option maxRecDepth 20000 in
theorem ggX5_ahead_X5_whyNoFact : GoodIn wsX5_ahead wsX5_whyNoFact := goodIn_r _ [23, 3, 24, 25, 7, 26, 27, 28, 29, 30, 31, 32, 61, 62, 63, 64, 65, 66, 67, 68, 69, 70, 71, 72, 73, 74, 75, 76, 77, 78] (by decide +kernel) (by decide +kernel)
set_option maxRecDepth 20000 in
theorem gX5_ahead_X5_whyNoFact : GoodIn wsX5_ahead (wsV RX5 75 RX5 yX5_whyNoFact wsX5_whyNoFact) := goodIn_app (goodIn_of _ (by decide +kernel)) ggX5_ahead_X5_whyNoFact
set_option maxRecDepth 20000 in
theorem ggX5_ahead_X5_refuse : GoodIn wsX5_ahead wsX5_refuse := goodIn_r _ [36, 37, 61, 62, 63, 64, 65, 66, 67, 68, 69, 70] (by decide +kernel) (by decide +kernel)
set_option maxRecDepth 20000 in
theorem gX5_ahead_X5_refuse : GoodIn wsX5_ahead (wsV RX5 55 RX5 yX5_refuse wsX5_refuse) := goodIn_app (goodIn_of _ (by decide +kernel)) ggX5_ahead_X5_refuse
set_option maxRecDepth 20000 in
theorem ggX5_ahead_X2_tell : GoodIn wsX5_ahead wsX2_tell := goodIn_r _ [41, 42, 32, 43, 44, 45, 28, 29, 30, 31, 71, 72, 73, 74, 75, 76, 77, 78] (by decide +kernel) (by decide +kernel)
set_option maxRecDepth 20000 in
theorem gX5_ahead_X2_tell : GoodIn wsX5_ahead (wsV RX5 79 RX2 yX2_tell wsX2_tell) := goodIn_app (goodIn_of _ (by decide +kernel)) ggX5_ahead_X2_tell
set_option maxRecDepth 20000 in
theorem ggX5_ahead_X5_platePoint : GoodIn wsX5_ahead wsX5_platePoint := goodIn_r _ [48] (by decide +kernel) (by decide +kernel)
set_option maxRecDepth 20000 in
theorem gX5_ahead_X5_platePoint : GoodIn wsX5_ahead (va_wsS RX5 83 yX5_platePoint wsX5_platePoint) := goodIn_app (goodIn_of _ (by decide +kernel)) ggX5_ahead_X5_platePoint
set_option maxRecDepth 20000 in
theorem ggX5_ahead_X2_addLimit : GoodIn wsX5_ahead wsX2_addLimit := goodIn_r _ [52, 32, 53, 54, 55, 56, 71, 72, 73, 74, 75, 76, 77, 78] (by decide +kernel) (by decide +kernel)
set_option maxRecDepth 20000 in
theorem gX5_ahead_X2_addLimit : GoodIn wsX5_ahead (wsV RX5 90 RX2 yX2_addLimit wsX2_addLimit) := goodIn_app (goodIn_of _ (by decide +kernel)) ggX5_ahead_X2_addLimit
set_option maxRecDepth 20000 in
theorem ggX5_ahead_X5_answer : GoodIn wsX5_ahead wsX5_answer := goodIn_r _ [60, 37, 61, 62, 63, 64, 65, 66, 67, 68, 69, 70] (by decide +kernel) (by decide +kernel)
set_option maxRecDepth 20000 in
theorem gX5_ahead_X5_answer : GoodIn wsX5_ahead (wsV RX5 59 RX5 yX5_answer wsX5_answer) := goodIn_app (goodIn_of _ (by decide +kernel)) ggX5_ahead_X5_answer
theorem dX5_ahead_0 : decode cX5_ahead 0 = .ok (.aload_n 0, 1) := by decide +kernel
theorem dX5_ahead_1 : decode cX5_ahead 1 = .ok (.aload_n 0, 1) := by decide +kernel
theorem dX5_ahead_2 : decode cX5_ahead 2 = .ok (.iload_n 1, 1) := by decide +kernel
theorem dX5_ahead_3 : decode cX5_ahead 3 = .ok (.iload_n 2, 1) := by decide +kernel
theorem dX5_ahead_4 : decode cX5_ahead 4 = .ok (.invokevirtual 94, 3) := by decide +kernel
theorem dX5_ahead_7 : decode cX5_ahead 7 = .ok (.iload_n 3, 1) := by decide +kernel
theorem dX5_ahead_8 : decode cX5_ahead 8 = .ok (.ldc 98, 2) := by decide +kernel
theorem dX5_ahead_10 : decode cX5_ahead 10 = .ok (.ldc 99, 2) := by decide +kernel
theorem dX5_ahead_12 : decode cX5_ahead 12 = .ok (.invokestatic 100, 3) := by decide +kernel
theorem dX5_ahead_15 : decode cX5_ahead 15 = .ok (.ifCond .eq 15, 3) := by decide +kernel
theorem dX5_ahead_18 : decode cX5_ahead 18 = .ok (.iload 4, 2) := by decide +kernel
theorem dX5_ahead_20 : decode cX5_ahead 20 = .ok (.invokestatic 72, 3) := by decide +kernel
theorem dX5_ahead_23 : decode cX5_ahead 23 = .ok (.ifCond .eq 7, 3) := by decide +kernel
theorem dX5_ahead_26 : decode cX5_ahead 26 = .ok (.iconst 1, 1) := by decide +kernel
theorem dX5_ahead_27 : decode cX5_ahead 27 = .ok (.goto 4, 3) := by decide +kernel
theorem dX5_ahead_30 : decode cX5_ahead 30 = .ok (.iconst 0, 1) := by decide +kernel
theorem dX5_ahead_31 : decode cX5_ahead 31 = .ok (.invokevirtual 75, 3) := by decide +kernel
theorem dX5_ahead_34 : decode cX5_ahead 34 = .ok (.istore 5, 2) := by decide +kernel
theorem dX5_ahead_36 : decode cX5_ahead 36 = .ok (.iload 5, 2) := by decide +kernel
theorem dX5_ahead_38 : decode cX5_ahead 38 = .ok (.ifCond .eq 10, 3) := by decide +kernel
theorem dX5_ahead_41 : decode cX5_ahead 41 = .ok (.aload_n 0, 1) := by decide +kernel
theorem dX5_ahead_42 : decode cX5_ahead 42 = .ok (.iload 5, 2) := by decide +kernel
theorem dX5_ahead_44 : decode cX5_ahead 44 = .ok (.invokevirtual 55, 3) := by decide +kernel
theorem dX5_ahead_47 : decode cX5_ahead 47 = .ok (.ireturn, 1) := by decide +kernel
theorem dX5_ahead_48 : decode cX5_ahead 48 = .ok (.aload_n 0, 1) := by decide +kernel
theorem dX5_ahead_49 : decode cX5_ahead 49 = .ok (.getfield 12, 3) := by decide +kernel
theorem dX5_ahead_52 : decode cX5_ahead 52 = .ok (.iconst 1, 1) := by decide +kernel
theorem dX5_ahead_53 : decode cX5_ahead 53 = .ok (.iload 4, 2) := by decide +kernel
theorem dX5_ahead_55 : decode cX5_ahead 55 = .ok (.invokevirtual 79, 3) := by decide +kernel
theorem dX5_ahead_58 : decode cX5_ahead 58 = .ok (.istore 6, 2) := by decide +kernel
theorem dX5_ahead_60 : decode cX5_ahead 60 = .ok (.aload_n 0, 1) := by decide +kernel
theorem dX5_ahead_61 : decode cX5_ahead 61 = .ok (.getfield 12, 3) := by decide +kernel
theorem dX5_ahead_64 : decode cX5_ahead 64 = .ok (.iload_n 2, 1) := by decide +kernel
theorem dX5_ahead_65 : decode cX5_ahead 65 = .ok (.invokestatic 83, 3) := by decide +kernel
theorem dX5_ahead_68 : decode cX5_ahead 68 = .ok (.iload_n 1, 1) := by decide +kernel
theorem dX5_ahead_69 : decode cX5_ahead 69 = .ok (.invokestatic 83, 3) := by decide +kernel
theorem dX5_ahead_72 : decode cX5_ahead 72 = .ok (.iload_n 3, 1) := by decide +kernel
theorem dX5_ahead_73 : decode cX5_ahead 73 = .ok (.ineg, 1) := by decide +kernel
theorem dX5_ahead_74 : decode cX5_ahead 74 = .ok (.invokevirtual 90, 3) := by decide +kernel
theorem dX5_ahead_77 : decode cX5_ahead 77 = .ok (.aload_n 0, 1) := by decide +kernel
theorem dX5_ahead_78 : decode cX5_ahead 78 = .ok (.iload 6, 2) := by decide +kernel
theorem dX5_ahead_80 : decode cX5_ahead 80 = .ok (.invokevirtual 59, 3) := by decide +kernel
theorem dX5_ahead_83 : decode cX5_ahead 83 = .ok (.ireturn, 1) := by decide +kernel
set_option maxRecDepth 20000 in
theorem ggX5_same_X5_areTwoPlates : GoodIn wsX5_same wsX5_areTwoPlates := goodIn_r _ [6, 7, 8, 9, 5, 10, 11, 59, 60, 61, 62, 63, 64, 65, 66, 67, 68] (by decide +kernel) (by decide +kernel)
set_option maxRecDepth 20000 in
theorem gX5_same_X5_areTwoPlates : GoodIn wsX5_same (wsV RX5 94 RX5 yX5_areTwoPlates wsX5_areTwoPlates) := goodIn_app (goodIn_of _ (by decide +kernel)) ggX5_same_X5_areTwoPlates
set_option maxRecDepth 20000 in
theorem ggX5_same_X5_isDay : GoodIn wsX5_same wsX5_isDay := goodIn_r _ [14, 15, 16, 5, 17] (by decide +kernel) (by decide +kernel)
set_option maxRecDepth 20000 in
theorem gX5_same_X5_isDay : GoodIn wsX5_same (va_wsS RX5 72 yX5_isDay wsX5_isDay) := goodIn_app (goodIn_of _ (by decide +kernel)) ggX5_same_X5_isDay
set_option maxRecDepth 20000 in
theorem ggX5_same_X5_whyNoFact : GoodIn wsX5_same wsX5_whyNoFact := goodIn_r _ [21, 1, 22, 23, 5, 24, 25, 26, 27, 28, 29, 30, 59, 60, 61, 62, 63, 64, 65, 66, 67, 68, 69, 70, 71, 72, 73, 74, 75, 76] (by decide +kernel) (by decide +kernel)
set_option maxRecDepth 20000 in
theorem gX5_same_X5_whyNoFact : GoodIn wsX5_same (wsV RX5 75 RX5 yX5_whyNoFact wsX5_whyNoFact) := goodIn_app (goodIn_of _ (by decide +kernel)) ggX5_same_X5_whyNoFact
set_option maxRecDepth 20000 in
theorem ggX5_same_X5_refuse : GoodIn wsX5_same wsX5_refuse := goodIn_r _ [34, 35, 59, 60, 61, 62, 63, 64, 65, 66, 67, 68] (by decide +kernel) (by decide +kernel)
set_option maxRecDepth 20000 in
theorem gX5_same_X5_refuse : GoodIn wsX5_same (wsV RX5 55 RX5 yX5_refuse wsX5_refuse) := goodIn_app (goodIn_of _ (by decide +kernel)) ggX5_same_X5_refuse
set_option maxRecDepth 20000 in
theorem ggX5_same_X2_tell : GoodIn wsX5_same wsX2_tell := goodIn_r _ [39, 40, 30, 41, 42, 43, 26, 27, 28, 29, 69, 70, 71, 72, 73, 74, 75, 76] (by decide +kernel) (by decide +kernel)
set_option maxRecDepth 20000 in
theorem gX5_same_X2_tell : GoodIn wsX5_same (wsV RX5 79 RX2 yX2_tell wsX2_tell) := goodIn_app (goodIn_of _ (by decide +kernel)) ggX5_same_X2_tell
set_option maxRecDepth 20000 in
theorem ggX5_same_X5_platePoint : GoodIn wsX5_same wsX5_platePoint := goodIn_r _ [46] (by decide +kernel) (by decide +kernel)
set_option maxRecDepth 20000 in
theorem gX5_same_X5_platePoint : GoodIn wsX5_same (va_wsS RX5 83 yX5_platePoint wsX5_platePoint) := goodIn_app (goodIn_of _ (by decide +kernel)) ggX5_same_X5_platePoint
set_option maxRecDepth 20000 in
theorem ggX5_same_X2_addLimit : GoodIn wsX5_same wsX2_addLimit := goodIn_r _ [50, 30, 51, 52, 53, 54, 69, 70, 71, 72, 73, 74, 75, 76] (by decide +kernel) (by decide +kernel)
set_option maxRecDepth 20000 in
theorem gX5_same_X2_addLimit : GoodIn wsX5_same (wsV RX5 90 RX2 yX2_addLimit wsX2_addLimit) := goodIn_app (goodIn_of _ (by decide +kernel)) ggX5_same_X2_addLimit
set_option maxRecDepth 20000 in
theorem ggX5_same_X5_answer : GoodIn wsX5_same wsX5_answer := goodIn_r _ [58, 35, 59, 60, 61, 62, 63, 64, 65, 66, 67, 68] (by decide +kernel) (by decide +kernel)
set_option maxRecDepth 20000 in
theorem gX5_same_X5_answer : GoodIn wsX5_same (wsV RX5 59 RX5 yX5_answer wsX5_answer) := goodIn_app (goodIn_of _ (by decide +kernel)) ggX5_same_X5_answer
theorem dX5_same_0 : decode cX5_same 0 = .ok (.aload_n 0, 1) := by decide +kernel
theorem dX5_same_1 : decode cX5_same 1 = .ok (.aload_n 0, 1) := by decide +kernel
theorem dX5_same_2 : decode cX5_same 2 = .ok (.iload_n 1, 1) := by decide +kernel
theorem dX5_same_3 : decode cX5_same 3 = .ok (.iload_n 2, 1) := by decide +kernel
theorem dX5_same_4 : decode cX5_same 4 = .ok (.invokevirtual 94, 3) := by decide +kernel
theorem dX5_same_7 : decode cX5_same 7 = .ok (.iload_n 3, 1) := by decide +kernel
theorem dX5_same_8 : decode cX5_same 8 = .ok (.invokestatic 72, 3) := by decide +kernel
theorem dX5_same_11 : decode cX5_same 11 = .ok (.invokevirtual 75, 3) := by decide +kernel
theorem dX5_same_14 : decode cX5_same 14 = .ok (.istore 4, 2) := by decide +kernel
theorem dX5_same_16 : decode cX5_same 16 = .ok (.iload 4, 2) := by decide +kernel
theorem dX5_same_18 : decode cX5_same 18 = .ok (.ifCond .eq 10, 3) := by decide +kernel
theorem dX5_same_21 : decode cX5_same 21 = .ok (.aload_n 0, 1) := by decide +kernel
theorem dX5_same_22 : decode cX5_same 22 = .ok (.iload 4, 2) := by decide +kernel
theorem dX5_same_24 : decode cX5_same 24 = .ok (.invokevirtual 55, 3) := by decide +kernel
theorem dX5_same_27 : decode cX5_same 27 = .ok (.ireturn, 1) := by decide +kernel
theorem dX5_same_28 : decode cX5_same 28 = .ok (.aload_n 0, 1) := by decide +kernel
theorem dX5_same_29 : decode cX5_same 29 = .ok (.getfield 12, 3) := by decide +kernel
theorem dX5_same_32 : decode cX5_same 32 = .ok (.iconst 5, 1) := by decide +kernel
theorem dX5_same_33 : decode cX5_same 33 = .ok (.iload_n 3, 1) := by decide +kernel
theorem dX5_same_34 : decode cX5_same 34 = .ok (.invokevirtual 79, 3) := by decide +kernel
theorem dX5_same_37 : decode cX5_same 37 = .ok (.istore 5, 2) := by decide +kernel
theorem dX5_same_39 : decode cX5_same 39 = .ok (.aload_n 0, 1) := by decide +kernel
theorem dX5_same_40 : decode cX5_same 40 = .ok (.getfield 12, 3) := by decide +kernel
theorem dX5_same_43 : decode cX5_same 43 = .ok (.iload_n 1, 1) := by decide +kernel
theorem dX5_same_44 : decode cX5_same 44 = .ok (.invokestatic 83, 3) := by decide +kernel
theorem dX5_same_47 : decode cX5_same 47 = .ok (.iload_n 2, 1) := by decide +kernel
theorem dX5_same_48 : decode cX5_same 48 = .ok (.invokestatic 83, 3) := by decide +kernel
theorem dX5_same_51 : decode cX5_same 51 = .ok (.iconst 0, 1) := by decide +kernel
theorem dX5_same_52 : decode cX5_same 52 = .ok (.invokevirtual 90, 3) := by decide +kernel
theorem dX5_same_55 : decode cX5_same 55 = .ok (.aload_n 0, 1) := by decide +kernel
theorem dX5_same_56 : decode cX5_same 56 = .ok (.getfield 12, 3) := by decide +kernel
theorem dX5_same_59 : decode cX5_same 59 = .ok (.iload_n 2, 1) := by decide +kernel
theorem dX5_same_60 : decode cX5_same 60 = .ok (.invokestatic 83, 3) := by decide +kernel
theorem dX5_same_63 : decode cX5_same 63 = .ok (.iload_n 1, 1) := by decide +kernel
theorem dX5_same_64 : decode cX5_same 64 = .ok (.invokestatic 83, 3) := by decide +kernel
theorem dX5_same_67 : decode cX5_same 67 = .ok (.iconst 0, 1) := by decide +kernel
theorem dX5_same_68 : decode cX5_same 68 = .ok (.invokevirtual 90, 3) := by decide +kernel
theorem dX5_same_71 : decode cX5_same 71 = .ok (.aload_n 0, 1) := by decide +kernel
theorem dX5_same_72 : decode cX5_same 72 = .ok (.iload 5, 2) := by decide +kernel
theorem dX5_same_74 : decode cX5_same 74 = .ok (.invokevirtual 59, 3) := by decide +kernel
theorem dX5_same_77 : decode cX5_same 77 = .ok (.ireturn, 1) := by decide +kernel
set_option maxRecDepth 20000 in
theorem ggX5_taken_X5_isPlate : GoodIn wsX5_taken wsX5_isPlate := goodIn_r _ [5, 6, 63, 64, 65, 66, 67, 68, 69, 70, 71, 72] (by decide +kernel) (by decide +kernel)
set_option maxRecDepth 20000 in
theorem gX5_taken_X5_isPlate : GoodIn wsX5_taken (wsV RX5 65 RX5 yX5_isPlate wsX5_isPlate) := goodIn_app (goodIn_of _ (by decide +kernel)) ggX5_taken_X5_isPlate
set_option maxRecDepth 20000 in
theorem ggX5_taken_X5_isTimeRange : GoodIn wsX5_taken wsX5_isTimeRange := goodIn_r _ [9, 10] (by decide +kernel) (by decide +kernel)
set_option maxRecDepth 20000 in
theorem gX5_taken_X5_isTimeRange : GoodIn wsX5_taken (va_wsS RX5 104 yX5_isTimeRange wsX5_isTimeRange) := goodIn_app (goodIn_of _ (by decide +kernel)) ggX5_taken_X5_isTimeRange
set_option maxRecDepth 20000 in
theorem ggX5_taken_X5_isDay : GoodIn wsX5_taken wsX5_isDay := goodIn_r _ [13, 14, 15, 4, 16] (by decide +kernel) (by decide +kernel)
set_option maxRecDepth 20000 in
theorem gX5_taken_X5_isDay : GoodIn wsX5_taken (va_wsS RX5 72 yX5_isDay wsX5_isDay) := goodIn_app (goodIn_of _ (by decide +kernel)) ggX5_taken_X5_isDay
set_option maxRecDepth 20000 in
theorem ggX5_taken_X5_whyNoFact : GoodIn wsX5_taken wsX5_whyNoFact := goodIn_r _ [20, 21, 22, 23, 4, 24, 25, 26, 27, 28, 29, 30, 63, 64, 65, 66, 67, 68, 69, 70, 71, 72, 73, 74, 75, 76, 77, 78, 79, 80] (by decide +kernel) (by decide +kernel)
set_option maxRecDepth 20000 in
theorem gX5_taken_X5_whyNoFact : GoodIn wsX5_taken (wsV RX5 75 RX5 yX5_whyNoFact wsX5_whyNoFact) := goodIn_app (goodIn_of _ (by decide +kernel)) ggX5_taken_X5_whyNoFact
set_option maxRecDepth 20000 in
theorem ggX5_taken_X5_refuse : GoodIn wsX5_taken wsX5_refuse := goodIn_r _ [34, 35, 63, 64, 65, 66, 67, 68, 69, 70, 71, 72] (by decide +kernel) (by decide +kernel)
set_option maxRecDepth 20000 in
theorem gX5_taken_X5_refuse : GoodIn wsX5_taken (wsV RX5 55 RX5 yX5_refuse wsX5_refuse) := goodIn_app (goodIn_of _ (by decide +kernel)) ggX5_taken_X5_refuse
set_option maxRecDepth 20000 in
theorem ggX5_taken_X5_platePoint : GoodIn wsX5_taken wsX5_platePoint := goodIn_r _ [38] (by decide +kernel) (by decide +kernel)
set_option maxRecDepth 20000 in
theorem gX5_taken_X5_platePoint : GoodIn wsX5_taken (va_wsS RX5 83 yX5_platePoint wsX5_platePoint) := goodIn_app (goodIn_of _ (by decide +kernel)) ggX5_taken_X5_platePoint
set_option maxRecDepth 20000 in
theorem ggX5_taken_X5_tellRange : GoodIn wsX5_taken wsX5_tellRange := goodIn_r _ [42, 21, 43, 44, 45, 28, 46, 47, 30, 48, 49, 50, 26, 27, 29, 51, 52, 53, 54, 55, 56, 57, 58, 59, 60, 61, 4, 62, 35, 63, 64, 65, 66, 67, 68, 69, 70, 71, 72, 73, 74, 75, 76, 77, 78, 79, 80] (by decide +kernel) (by decide +kernel)
set_option maxRecDepth 20000 in
theorem gX5_taken_X5_tellRange : GoodIn wsX5_taken (wsV RX5 107 RX5 yX5_tellRange wsX5_tellRange) := goodIn_app (goodIn_of _ (by decide +kernel)) ggX5_taken_X5_tellRange
theorem dX5_taken_0 : decode cX5_taken 0 = .ok (.aload_n 0, 1) := by decide +kernel
theorem dX5_taken_1 : decode cX5_taken 1 = .ok (.aload_n 0, 1) := by decide +kernel
theorem dX5_taken_2 : decode cX5_taken 2 = .ok (.iload_n 1, 1) := by decide +kernel
theorem dX5_taken_3 : decode cX5_taken 3 = .ok (.invokevirtual 65, 3) := by decide +kernel
theorem dX5_taken_6 : decode cX5_taken 6 = .ok (.iload_n 2, 1) := by decide +kernel
theorem dX5_taken_7 : decode cX5_taken 7 = .ok (.iload_n 3, 1) := by decide +kernel
theorem dX5_taken_8 : decode cX5_taken 8 = .ok (.invokestatic 104, 3) := by decide +kernel
theorem dX5_taken_11 : decode cX5_taken 11 = .ok (.ifCond .eq 15, 3) := by decide +kernel
theorem dX5_taken_14 : decode cX5_taken 14 = .ok (.iload 4, 2) := by decide +kernel
theorem dX5_taken_16 : decode cX5_taken 16 = .ok (.invokestatic 72, 3) := by decide +kernel
theorem dX5_taken_19 : decode cX5_taken 19 = .ok (.ifCond .eq 7, 3) := by decide +kernel
theorem dX5_taken_22 : decode cX5_taken 22 = .ok (.iconst 1, 1) := by decide +kernel
theorem dX5_taken_23 : decode cX5_taken 23 = .ok (.goto 4, 3) := by decide +kernel
theorem dX5_taken_26 : decode cX5_taken 26 = .ok (.iconst 0, 1) := by decide +kernel
theorem dX5_taken_27 : decode cX5_taken 27 = .ok (.invokevirtual 75, 3) := by decide +kernel
theorem dX5_taken_30 : decode cX5_taken 30 = .ok (.istore 5, 2) := by decide +kernel
theorem dX5_taken_32 : decode cX5_taken 32 = .ok (.iload 5, 2) := by decide +kernel
theorem dX5_taken_34 : decode cX5_taken 34 = .ok (.ifCond .eq 10, 3) := by decide +kernel
theorem dX5_taken_37 : decode cX5_taken 37 = .ok (.aload_n 0, 1) := by decide +kernel
theorem dX5_taken_38 : decode cX5_taken 38 = .ok (.iload 5, 2) := by decide +kernel
theorem dX5_taken_40 : decode cX5_taken 40 = .ok (.invokevirtual 55, 3) := by decide +kernel
theorem dX5_taken_43 : decode cX5_taken 43 = .ok (.ireturn, 1) := by decide +kernel
theorem dX5_taken_44 : decode cX5_taken 44 = .ok (.aload_n 0, 1) := by decide +kernel
theorem dX5_taken_45 : decode cX5_taken 45 = .ok (.iconst 2, 1) := by decide +kernel
theorem dX5_taken_46 : decode cX5_taken 46 = .ok (.iload_n 1, 1) := by decide +kernel
theorem dX5_taken_47 : decode cX5_taken 47 = .ok (.invokestatic 83, 3) := by decide +kernel
theorem dX5_taken_50 : decode cX5_taken 50 = .ok (.iload_n 2, 1) := by decide +kernel
theorem dX5_taken_51 : decode cX5_taken 51 = .ok (.iload_n 3, 1) := by decide +kernel
theorem dX5_taken_52 : decode cX5_taken 52 = .ok (.iload 4, 2) := by decide +kernel
theorem dX5_taken_54 : decode cX5_taken 54 = .ok (.invokevirtual 107, 3) := by decide +kernel
theorem dX5_taken_57 : decode cX5_taken 57 = .ok (.ireturn, 1) := by decide +kernel
set_option maxRecDepth 20000 in
theorem ggX5_stood_X5_isMotif : GoodIn wsX5_stood wsX5_isMotif := goodIn_r _ [5, 6, 63, 64, 65, 66, 67, 68, 69, 70, 71, 72] (by decide +kernel) (by decide +kernel)
set_option maxRecDepth 20000 in
theorem gX5_stood_X5_isMotif : GoodIn wsX5_stood (wsV RX5 69 RX5 yX5_isMotif wsX5_isMotif) := goodIn_app (goodIn_of _ (by decide +kernel)) ggX5_stood_X5_isMotif
set_option maxRecDepth 20000 in
theorem ggX5_stood_X5_isTimeRange : GoodIn wsX5_stood wsX5_isTimeRange := goodIn_r _ [9, 10] (by decide +kernel) (by decide +kernel)
set_option maxRecDepth 20000 in
theorem gX5_stood_X5_isTimeRange : GoodIn wsX5_stood (va_wsS RX5 104 yX5_isTimeRange wsX5_isTimeRange) := goodIn_app (goodIn_of _ (by decide +kernel)) ggX5_stood_X5_isTimeRange
set_option maxRecDepth 20000 in
theorem ggX5_stood_X5_isDay : GoodIn wsX5_stood wsX5_isDay := goodIn_r _ [13, 14, 15, 4, 16] (by decide +kernel) (by decide +kernel)
set_option maxRecDepth 20000 in
theorem gX5_stood_X5_isDay : GoodIn wsX5_stood (va_wsS RX5 72 yX5_isDay wsX5_isDay) := goodIn_app (goodIn_of _ (by decide +kernel)) ggX5_stood_X5_isDay
set_option maxRecDepth 20000 in
theorem ggX5_stood_X5_whyNoFact : GoodIn wsX5_stood wsX5_whyNoFact := goodIn_r _ [20, 21, 22, 23, 4, 24, 25, 26, 27, 28, 29, 30, 63, 64, 65, 66, 67, 68, 69, 70, 71, 72, 73, 74, 75, 76, 77, 78, 79, 80] (by decide +kernel) (by decide +kernel)
set_option maxRecDepth 20000 in
theorem gX5_stood_X5_whyNoFact : GoodIn wsX5_stood (wsV RX5 75 RX5 yX5_whyNoFact wsX5_whyNoFact) := goodIn_app (goodIn_of _ (by decide +kernel)) ggX5_stood_X5_whyNoFact
set_option maxRecDepth 20000 in
theorem ggX5_stood_X5_refuse : GoodIn wsX5_stood wsX5_refuse := goodIn_r _ [34, 35, 63, 64, 65, 66, 67, 68, 69, 70, 71, 72] (by decide +kernel) (by decide +kernel)
set_option maxRecDepth 20000 in
theorem gX5_stood_X5_refuse : GoodIn wsX5_stood (wsV RX5 55 RX5 yX5_refuse wsX5_refuse) := goodIn_app (goodIn_of _ (by decide +kernel)) ggX5_stood_X5_refuse
set_option maxRecDepth 20000 in
theorem ggX5_stood_X5_motifPoint : GoodIn wsX5_stood wsX5_motifPoint := goodIn_r _ [38] (by decide +kernel) (by decide +kernel)
set_option maxRecDepth 20000 in
theorem gX5_stood_X5_motifPoint : GoodIn wsX5_stood (va_wsS RX5 86 yX5_motifPoint wsX5_motifPoint) := goodIn_app (goodIn_of _ (by decide +kernel)) ggX5_stood_X5_motifPoint
set_option maxRecDepth 20000 in
theorem ggX5_stood_X5_tellRange : GoodIn wsX5_stood wsX5_tellRange := goodIn_r _ [42, 21, 43, 44, 45, 28, 46, 47, 30, 48, 49, 50, 26, 27, 29, 51, 52, 53, 54, 55, 56, 57, 58, 59, 60, 61, 4, 62, 35, 63, 64, 65, 66, 67, 68, 69, 70, 71, 72, 73, 74, 75, 76, 77, 78, 79, 80] (by decide +kernel) (by decide +kernel)
set_option maxRecDepth 20000 in
theorem gX5_stood_X5_tellRange : GoodIn wsX5_stood (wsV RX5 107 RX5 yX5_tellRange wsX5_tellRange) := goodIn_app (goodIn_of _ (by decide +kernel)) ggX5_stood_X5_tellRange
theorem dX5_stood_0 : decode cX5_stood 0 = .ok (.aload_n 0, 1) := by decide +kernel
theorem dX5_stood_1 : decode cX5_stood 1 = .ok (.aload_n 0, 1) := by decide +kernel
theorem dX5_stood_2 : decode cX5_stood 2 = .ok (.iload_n 1, 1) := by decide +kernel
theorem dX5_stood_3 : decode cX5_stood 3 = .ok (.invokevirtual 69, 3) := by decide +kernel
theorem dX5_stood_6 : decode cX5_stood 6 = .ok (.iload_n 3, 1) := by decide +kernel
theorem dX5_stood_7 : decode cX5_stood 7 = .ok (.iload 4, 2) := by decide +kernel
theorem dX5_stood_9 : decode cX5_stood 9 = .ok (.invokestatic 104, 3) := by decide +kernel
theorem dX5_stood_12 : decode cX5_stood 12 = .ok (.ifCond .eq 15, 3) := by decide +kernel
theorem dX5_stood_15 : decode cX5_stood 15 = .ok (.iload 5, 2) := by decide +kernel
theorem dX5_stood_17 : decode cX5_stood 17 = .ok (.invokestatic 72, 3) := by decide +kernel
theorem dX5_stood_20 : decode cX5_stood 20 = .ok (.ifCond .eq 7, 3) := by decide +kernel
theorem dX5_stood_23 : decode cX5_stood 23 = .ok (.iconst 1, 1) := by decide +kernel
theorem dX5_stood_24 : decode cX5_stood 24 = .ok (.goto 4, 3) := by decide +kernel
theorem dX5_stood_27 : decode cX5_stood 27 = .ok (.iconst 0, 1) := by decide +kernel
theorem dX5_stood_28 : decode cX5_stood 28 = .ok (.invokevirtual 75, 3) := by decide +kernel
theorem dX5_stood_31 : decode cX5_stood 31 = .ok (.istore 6, 2) := by decide +kernel
theorem dX5_stood_33 : decode cX5_stood 33 = .ok (.iload 6, 2) := by decide +kernel
theorem dX5_stood_35 : decode cX5_stood 35 = .ok (.ifCond .eq 10, 3) := by decide +kernel
theorem dX5_stood_38 : decode cX5_stood 38 = .ok (.aload_n 0, 1) := by decide +kernel
theorem dX5_stood_39 : decode cX5_stood 39 = .ok (.iload 6, 2) := by decide +kernel
theorem dX5_stood_41 : decode cX5_stood 41 = .ok (.invokevirtual 55, 3) := by decide +kernel
theorem dX5_stood_44 : decode cX5_stood 44 = .ok (.ireturn, 1) := by decide +kernel
theorem dX5_stood_45 : decode cX5_stood 45 = .ok (.aload_n 0, 1) := by decide +kernel
theorem dX5_stood_46 : decode cX5_stood 46 = .ok (.iload_n 2, 1) := by decide +kernel
theorem dX5_stood_47 : decode cX5_stood 47 = .ok (.ifCond .eq 7, 3) := by decide +kernel
theorem dX5_stood_50 : decode cX5_stood 50 = .ok (.iconst 4, 1) := by decide +kernel
theorem dX5_stood_51 : decode cX5_stood 51 = .ok (.goto 4, 3) := by decide +kernel
theorem dX5_stood_54 : decode cX5_stood 54 = .ok (.iconst 3, 1) := by decide +kernel
theorem dX5_stood_55 : decode cX5_stood 55 = .ok (.iload_n 1, 1) := by decide +kernel
theorem dX5_stood_56 : decode cX5_stood 56 = .ok (.iload_n 2, 1) := by decide +kernel
theorem dX5_stood_57 : decode cX5_stood 57 = .ok (.invokestatic 86, 3) := by decide +kernel
theorem dX5_stood_60 : decode cX5_stood 60 = .ok (.iload_n 3, 1) := by decide +kernel
theorem dX5_stood_61 : decode cX5_stood 61 = .ok (.iload 4, 2) := by decide +kernel
theorem dX5_stood_63 : decode cX5_stood 63 = .ok (.iload 5, 2) := by decide +kernel
theorem dX5_stood_65 : decode cX5_stood 65 = .ok (.invokevirtual 107, 3) := by decide +kernel
theorem dX5_stood_68 : decode cX5_stood 68 = .ok (.ireturn, 1) := by decide +kernel
set_option maxRecDepth 20000 in
theorem ggX5_cross_X2_has : GoodIn wsX5_cross wsX2_has := goodIn_r _ [7, 8, 39, 40, 41, 42, 43, 44, 45, 46] (by decide +kernel) (by decide +kernel)
set_option maxRecDepth 20000 in
theorem gX5_cross_X2_has : GoodIn wsX5_cross (wsV RX5 111 RX2 yX2_has wsX2_has) := goodIn_app (goodIn_of _ (by decide +kernel)) ggX5_cross_X2_has
set_option maxRecDepth 20000 in
theorem ggX5_cross_X5_isDay : GoodIn wsX5_cross wsX5_isDay := goodIn_r _ [12, 13, 14, 11, 15] (by decide +kernel) (by decide +kernel)
set_option maxRecDepth 20000 in
theorem gX5_cross_X5_isDay : GoodIn wsX5_cross (va_wsS RX5 72 yX5_isDay wsX5_isDay) := goodIn_app (goodIn_of _ (by decide +kernel)) ggX5_cross_X5_isDay
set_option maxRecDepth 20000 in
theorem ggX5_cross_X5_whyNot : GoodIn wsX5_cross wsX5_whyNot := goodIn_r _ [18] (by decide +kernel) (by decide +kernel)
set_option maxRecDepth 20000 in
theorem gX5_cross_X5_whyNot : GoodIn wsX5_cross (va_wsS RX5 114 yX5_whyNot wsX5_whyNot) := goodIn_app (goodIn_of _ (by decide +kernel)) ggX5_cross_X5_whyNot
set_option maxRecDepth 20000 in
theorem ggX5_cross_X2_crossingDay : GoodIn wsX5_cross wsX2_crossingDay := goodIn_r _ [22, 23, 24, 4, 5, 6, 7, 8, 39, 40, 41, 42, 43, 44, 45, 46] (by decide +kernel) (by decide +kernel)
set_option maxRecDepth 20000 in
theorem gX5_cross_X2_crossingDay : GoodIn wsX5_cross (wsV RX5 117 RX2 yX2_crossingDay wsX2_crossingDay) := goodIn_app (goodIn_of _ (by decide +kernel)) ggX5_cross_X2_crossingDay
set_option maxRecDepth 20000 in
theorem ggX5_cross_X2_crossOut : GoodIn wsX5_cross wsX2_crossOut := goodIn_r _ [28, 23, 24, 4, 5, 6, 7, 8, 39, 40, 41, 42, 43, 44, 45, 46] (by decide +kernel) (by decide +kernel)
set_option maxRecDepth 20000 in
theorem gX5_cross_X2_crossOut : GoodIn wsX5_cross (wsV RX5 120 RX2 yX2_crossOut wsX2_crossOut) := goodIn_app (goodIn_of _ (by decide +kernel)) ggX5_cross_X2_crossOut
theorem dX5_cross_0 : decode cX5_cross 0 = .ok (.aload_n 0, 1) := by decide +kernel
theorem dX5_cross_1 : decode cX5_cross 1 = .ok (.getfield 12, 3) := by decide +kernel
theorem dX5_cross_4 : decode cX5_cross 4 = .ok (.iload_n 1, 1) := by decide +kernel
theorem dX5_cross_5 : decode cX5_cross 5 = .ok (.invokevirtual 111, 3) := by decide +kernel
theorem dX5_cross_8 : decode cX5_cross 8 = .ok (.iload_n 2, 1) := by decide +kernel
theorem dX5_cross_9 : decode cX5_cross 9 = .ok (.invokestatic 72, 3) := by decide +kernel
theorem dX5_cross_12 : decode cX5_cross 12 = .ok (.invokestatic 114, 3) := by decide +kernel
theorem dX5_cross_15 : decode cX5_cross 15 = .ok (.istore_n 3, 1) := by decide +kernel
theorem dX5_cross_16 : decode cX5_cross 16 = .ok (.iload_n 3, 1) := by decide +kernel
theorem dX5_cross_17 : decode cX5_cross 17 = .ok (.ifCond .ne 17, 3) := by decide +kernel
theorem dX5_cross_20 : decode cX5_cross 20 = .ok (.aload_n 0, 1) := by decide +kernel
theorem dX5_cross_21 : decode cX5_cross 21 = .ok (.getfield 12, 3) := by decide +kernel
theorem dX5_cross_24 : decode cX5_cross 24 = .ok (.iload_n 1, 1) := by decide +kernel
theorem dX5_cross_25 : decode cX5_cross 25 = .ok (.invokevirtual 117, 3) := by decide +kernel
theorem dX5_cross_28 : decode cX5_cross 28 = .ok (.iconst (-1), 1) := by decide +kernel
theorem dX5_cross_29 : decode cX5_cross 29 = .ok (.if_icmp .eq 5, 3) := by decide +kernel
theorem dX5_cross_32 : decode cX5_cross 32 = .ok (.iconst 4, 1) := by decide +kernel
theorem dX5_cross_33 : decode cX5_cross 33 = .ok (.istore_n 3, 1) := by decide +kernel
theorem dX5_cross_34 : decode cX5_cross 34 = .ok (.aload_n 0, 1) := by decide +kernel
theorem dX5_cross_35 : decode cX5_cross 35 = .ok (.iload_n 3, 1) := by decide +kernel
theorem dX5_cross_36 : decode cX5_cross 36 = .ok (.putfield 48, 3) := by decide +kernel
theorem dX5_cross_39 : decode cX5_cross 39 = .ok (.iload_n 3, 1) := by decide +kernel
theorem dX5_cross_40 : decode cX5_cross 40 = .ok (.ifCond .eq 5, 3) := by decide +kernel
theorem dX5_cross_43 : decode cX5_cross 43 = .ok (.iconst 0, 1) := by decide +kernel
theorem dX5_cross_44 : decode cX5_cross 44 = .ok (.ireturn, 1) := by decide +kernel
theorem dX5_cross_45 : decode cX5_cross 45 = .ok (.aload_n 0, 1) := by decide +kernel
theorem dX5_cross_46 : decode cX5_cross 46 = .ok (.getfield 12, 3) := by decide +kernel
theorem dX5_cross_49 : decode cX5_cross 49 = .ok (.iload_n 1, 1) := by decide +kernel
theorem dX5_cross_50 : decode cX5_cross 50 = .ok (.iload_n 2, 1) := by decide +kernel
theorem dX5_cross_51 : decode cX5_cross 51 = .ok (.invokevirtual 120, 3) := by decide +kernel
theorem dX5_cross_54 : decode cX5_cross 54 = .ok (.iconst 1, 1) := by decide +kernel
theorem dX5_cross_55 : decode cX5_cross 55 = .ok (.ireturn, 1) := by decide +kernel
set_option maxRecDepth 20000 in
theorem ggX5_fact_X2_has : GoodIn wsX5_fact wsX2_has := goodIn_r _ [6, 7, 55, 56, 57, 58, 59, 60, 61, 62] (by decide +kernel) (by decide +kernel)
set_option maxRecDepth 20000 in
theorem gX5_fact_X2_has : GoodIn wsX5_fact (wsV RX5 111 RX2 yX2_has wsX2_has) := goodIn_app (goodIn_of _ (by decide +kernel)) ggX5_fact_X2_has
set_option maxRecDepth 20000 in
theorem ggX5_fact_X5_isWithin : GoodIn wsX5_fact wsX5_isWithin := goodIn_r _ [11] (by decide +kernel) (by decide +kernel)
set_option maxRecDepth 20000 in
theorem gX5_fact_X5_isWithin : GoodIn wsX5_fact (va_wsS RX5 100 yX5_isWithin wsX5_isWithin) := goodIn_app (goodIn_of _ (by decide +kernel)) ggX5_fact_X5_isWithin
set_option maxRecDepth 20000 in
theorem ggX5_fact_X5_whyNot : GoodIn wsX5_fact wsX5_whyNot := goodIn_r _ [14] (by decide +kernel) (by decide +kernel)
set_option maxRecDepth 20000 in
theorem gX5_fact_X5_whyNot : GoodIn wsX5_fact (va_wsS RX5 114 yX5_whyNot wsX5_whyNot) := goodIn_app (goodIn_of _ (by decide +kernel)) ggX5_fact_X5_whyNot
set_option maxRecDepth 20000 in
theorem ggX5_fact_X5_refuse : GoodIn wsX5_fact wsX5_refuse := goodIn_r _ [18, 19, 45, 46, 47, 48, 49, 50, 51, 52, 53, 54] (by decide +kernel) (by decide +kernel)
set_option maxRecDepth 20000 in
theorem gX5_fact_X5_refuse : GoodIn wsX5_fact (wsV RX5 55 RX5 yX5_refuse wsX5_refuse) := goodIn_app (goodIn_of _ (by decide +kernel)) ggX5_fact_X5_refuse
set_option maxRecDepth 20000 in
theorem ggX5_fact_X2_kindOf : GoodIn wsX5_fact wsX2_kindOf := goodIn_r _ [23, 24, 25, 3, 4, 5, 6, 7, 55, 56, 57, 58, 59, 60, 61, 62] (by decide +kernel) (by decide +kernel)
set_option maxRecDepth 20000 in
theorem gX5_fact_X2_kindOf : GoodIn wsX5_fact (wsV RX5 124 RX2 yX2_kindOf wsX2_kindOf) := goodIn_app (goodIn_of _ (by decide +kernel)) ggX5_fact_X2_kindOf
set_option maxRecDepth 20000 in
theorem ggX5_fact_X5_answer : GoodIn wsX5_fact wsX5_answer := goodIn_r _ [29, 19, 45, 46, 47, 48, 49, 50, 51, 52, 53, 54] (by decide +kernel) (by decide +kernel)
set_option maxRecDepth 20000 in
theorem gX5_fact_X5_answer : GoodIn wsX5_fact (wsV RX5 59 RX5 yX5_answer wsX5_answer) := goodIn_app (goodIn_of _ (by decide +kernel)) ggX5_fact_X5_answer
set_option maxRecDepth 20000 in
theorem ggX5_fact_X2_tellingDay : GoodIn wsX5_fact wsX2_tellingDay := goodIn_r _ [33, 34, 25, 3, 4, 5, 6, 7, 55, 56, 57, 58, 59, 60, 61, 62] (by decide +kernel) (by decide +kernel)
set_option maxRecDepth 20000 in
theorem gX5_fact_X2_tellingDay : GoodIn wsX5_fact (wsV RX5 127 RX2 yX2_tellingDay wsX2_tellingDay) := goodIn_app (goodIn_of _ (by decide +kernel)) ggX5_fact_X2_tellingDay
set_option maxRecDepth 20000 in
theorem ggX5_fact_X2_crossingDay : GoodIn wsX5_fact wsX2_crossingDay := goodIn_r _ [38, 39, 25, 3, 4, 5, 6, 7, 55, 56, 57, 58, 59, 60, 61, 62] (by decide +kernel) (by decide +kernel)
set_option maxRecDepth 20000 in
theorem gX5_fact_X2_crossingDay : GoodIn wsX5_fact (wsV RX5 117 RX2 yX2_crossingDay wsX2_crossingDay) := goodIn_app (goodIn_of _ (by decide +kernel)) ggX5_fact_X2_crossingDay
set_option maxRecDepth 20000 in
theorem ggX5_fact_X2_limitsOf : GoodIn wsX5_fact wsX2_limitsOf := goodIn_r _ [43, 44, 25, 3, 4, 5, 6, 7, 55, 56, 57, 58, 59, 60, 61, 62] (by decide +kernel) (by decide +kernel)
set_option maxRecDepth 20000 in
theorem gX5_fact_X2_limitsOf : GoodIn wsX5_fact (wsV RX5 130 RX2 yX2_limitsOf wsX2_limitsOf) := goodIn_app (goodIn_of _ (by decide +kernel)) ggX5_fact_X2_limitsOf
theorem dX5_fact_0 : decode cX5_fact 0 = .ok (.aload_n 0, 1) := by decide +kernel
theorem dX5_fact_1 : decode cX5_fact 1 = .ok (.getfield 12, 3) := by decide +kernel
theorem dX5_fact_4 : decode cX5_fact 4 = .ok (.iload_n 1, 1) := by decide +kernel
theorem dX5_fact_5 : decode cX5_fact 5 = .ok (.invokevirtual 111, 3) := by decide +kernel
theorem dX5_fact_8 : decode cX5_fact 8 = .ok (.iload_n 2, 1) := by decide +kernel
theorem dX5_fact_9 : decode cX5_fact 9 = .ok (.iconst 0, 1) := by decide +kernel
theorem dX5_fact_10 : decode cX5_fact 10 = .ok (.iconst 3, 1) := by decide +kernel
theorem dX5_fact_11 : decode cX5_fact 11 = .ok (.invokestatic 100, 3) := by decide +kernel
theorem dX5_fact_14 : decode cX5_fact 14 = .ok (.invokestatic 114, 3) := by decide +kernel
theorem dX5_fact_17 : decode cX5_fact 17 = .ok (.istore_n 3, 1) := by decide +kernel
theorem dX5_fact_18 : decode cX5_fact 18 = .ok (.iload_n 3, 1) := by decide +kernel
theorem dX5_fact_19 : decode cX5_fact 19 = .ok (.ifCond .eq 9, 3) := by decide +kernel
theorem dX5_fact_22 : decode cX5_fact 22 = .ok (.aload_n 0, 1) := by decide +kernel
theorem dX5_fact_23 : decode cX5_fact 23 = .ok (.iload_n 3, 1) := by decide +kernel
theorem dX5_fact_24 : decode cX5_fact 24 = .ok (.invokevirtual 55, 3) := by decide +kernel
theorem dX5_fact_27 : decode cX5_fact 27 = .ok (.ireturn, 1) := by decide +kernel
theorem dX5_fact_28 : decode cX5_fact 28 = .ok (.iload_n 2, 1) := by decide +kernel
theorem dX5_fact_29 : decode cX5_fact 29 = .ok (.tableswitch 66 0 2 #[27, 40, 53], 27) := by decide +kernel
theorem dX5_fact_56 : decode cX5_fact 56 = .ok (.aload_n 0, 1) := by decide +kernel
theorem dX5_fact_57 : decode cX5_fact 57 = .ok (.aload_n 0, 1) := by decide +kernel
theorem dX5_fact_58 : decode cX5_fact 58 = .ok (.getfield 12, 3) := by decide +kernel
theorem dX5_fact_61 : decode cX5_fact 61 = .ok (.iload_n 1, 1) := by decide +kernel
theorem dX5_fact_62 : decode cX5_fact 62 = .ok (.invokevirtual 124, 3) := by decide +kernel
theorem dX5_fact_65 : decode cX5_fact 65 = .ok (.invokevirtual 59, 3) := by decide +kernel
theorem dX5_fact_68 : decode cX5_fact 68 = .ok (.ireturn, 1) := by decide +kernel
theorem dX5_fact_69 : decode cX5_fact 69 = .ok (.aload_n 0, 1) := by decide +kernel
theorem dX5_fact_70 : decode cX5_fact 70 = .ok (.aload_n 0, 1) := by decide +kernel
theorem dX5_fact_71 : decode cX5_fact 71 = .ok (.getfield 12, 3) := by decide +kernel
theorem dX5_fact_74 : decode cX5_fact 74 = .ok (.iload_n 1, 1) := by decide +kernel
theorem dX5_fact_75 : decode cX5_fact 75 = .ok (.invokevirtual 127, 3) := by decide +kernel
theorem dX5_fact_78 : decode cX5_fact 78 = .ok (.invokevirtual 59, 3) := by decide +kernel
theorem dX5_fact_81 : decode cX5_fact 81 = .ok (.ireturn, 1) := by decide +kernel
theorem dX5_fact_82 : decode cX5_fact 82 = .ok (.aload_n 0, 1) := by decide +kernel
theorem dX5_fact_83 : decode cX5_fact 83 = .ok (.aload_n 0, 1) := by decide +kernel
theorem dX5_fact_84 : decode cX5_fact 84 = .ok (.getfield 12, 3) := by decide +kernel
theorem dX5_fact_87 : decode cX5_fact 87 = .ok (.iload_n 1, 1) := by decide +kernel
theorem dX5_fact_88 : decode cX5_fact 88 = .ok (.invokevirtual 117, 3) := by decide +kernel
theorem dX5_fact_91 : decode cX5_fact 91 = .ok (.invokevirtual 59, 3) := by decide +kernel
theorem dX5_fact_94 : decode cX5_fact 94 = .ok (.ireturn, 1) := by decide +kernel
theorem dX5_fact_95 : decode cX5_fact 95 = .ok (.aload_n 0, 1) := by decide +kernel
theorem dX5_fact_96 : decode cX5_fact 96 = .ok (.aload_n 0, 1) := by decide +kernel
theorem dX5_fact_97 : decode cX5_fact 97 = .ok (.getfield 12, 3) := by decide +kernel
theorem dX5_fact_100 : decode cX5_fact 100 = .ok (.iload_n 1, 1) := by decide +kernel
theorem dX5_fact_101 : decode cX5_fact 101 = .ok (.invokevirtual 130, 3) := by decide +kernel
theorem dX5_fact_104 : decode cX5_fact 104 = .ok (.invokevirtual 59, 3) := by decide +kernel
theorem dX5_fact_107 : decode cX5_fact 107 = .ok (.ireturn, 1) := by decide +kernel
set_option maxRecDepth 20000 in
theorem ggX5_span_X5_isPlate : GoodIn wsX5_span wsX5_isPlate := goodIn_r _ [5, 6, 110, 111, 112, 113, 114, 115, 116, 117, 118, 119] (by decide +kernel) (by decide +kernel)
set_option maxRecDepth 20000 in
theorem gX5_span_X5_isPlate : GoodIn wsX5_span (wsV RX5 65 RX5 yX5_isPlate wsX5_isPlate) := goodIn_app (goodIn_of _ (by decide +kernel)) ggX5_span_X5_isPlate
set_option maxRecDepth 20000 in
theorem ggX5_span_X5_isDay : GoodIn wsX5_span wsX5_isDay := goodIn_r _ [9, 10, 11, 4, 12] (by decide +kernel) (by decide +kernel)
set_option maxRecDepth 20000 in
theorem gX5_span_X5_isDay : GoodIn wsX5_span (va_wsS RX5 72 yX5_isDay wsX5_isDay) := goodIn_app (goodIn_of _ (by decide +kernel)) ggX5_span_X5_isDay
set_option maxRecDepth 20000 in
theorem ggX5_span_X5_whyNot : GoodIn wsX5_span wsX5_whyNot := goodIn_r _ [15] (by decide +kernel) (by decide +kernel)
set_option maxRecDepth 20000 in
theorem gX5_span_X5_whyNot : GoodIn wsX5_span (va_wsS RX5 114 yX5_whyNot wsX5_whyNot) := goodIn_app (goodIn_of _ (by decide +kernel)) ggX5_span_X5_whyNot
set_option maxRecDepth 20000 in
theorem ggX5_span_X5_refuse : GoodIn wsX5_span wsX5_refuse := goodIn_r _ [19, 20, 110, 111, 112, 113, 114, 115, 116, 117, 118, 119] (by decide +kernel) (by decide +kernel)
set_option maxRecDepth 20000 in
theorem gX5_span_X5_refuse : GoodIn wsX5_span (wsV RX5 55 RX5 yX5_refuse wsX5_refuse) := goodIn_app (goodIn_of _ (by decide +kernel)) ggX5_span_X5_refuse
set_option maxRecDepth 20000 in
theorem ggX5_span_X5_platePoint : GoodIn wsX5_span wsX5_platePoint := goodIn_r _ [23] (by decide +kernel) (by decide +kernel)
set_option maxRecDepth 20000 in
theorem gX5_span_X5_platePoint : GoodIn wsX5_span (va_wsS RX5 83 yX5_platePoint wsX5_platePoint) := goodIn_app (goodIn_of _ (by decide +kernel)) ggX5_span_X5_platePoint
set_option maxRecDepth 20000 in
theorem ggX5_span_X5_endOfSpan : GoodIn wsX5_span wsX5_endOfSpan := goodIn_r _ [27, 28, 29, 30, 31, 32, 33, 34, 35, 36, 37, 38, 39, 40, 41, 42, 43, 44, 45, 46, 47, 48, 49, 50, 51, 52, 53, 54, 55, 56, 57, 58, 59, 60, 61, 62, 63, 64, 65, 66, 67, 68, 69, 70, 71, 72, 73, 74, 75, 76, 77, 78, 79, 80, 81, 82, 83, 84, 85, 86, 87, 88, 89, 90, 91, 92, 93, 94, 95, 96, 97, 98, 99, 100, 101, 16, 17, 18, 4, 19, 20, 102, 103, 104, 105, 106, 107, 108, 109, 110, 111, 112, 113, 114, 115, 116, 117, 118, 119, 120, 121, 122, 123, 124, 125, 126, 127, 128, 129, 130, 131, 132, 133] (by decide +kernel) (by decide +kernel)
set_option maxRecDepth 20000 in
theorem gX5_span_X5_endOfSpan : GoodIn wsX5_span (wsV RX5 133 RX5 yX5_endOfSpan wsX5_endOfSpan) := goodIn_app (goodIn_of _ (by decide +kernel)) ggX5_span_X5_endOfSpan
theorem dX5_span_0 : decode cX5_span 0 = .ok (.aload_n 0, 1) := by decide +kernel
theorem dX5_span_1 : decode cX5_span 1 = .ok (.iload_n 1, 1) := by decide +kernel
theorem dX5_span_2 : decode cX5_span 2 = .ok (.invokevirtual 65, 3) := by decide +kernel
theorem dX5_span_5 : decode cX5_span 5 = .ok (.iload_n 3, 1) := by decide +kernel
theorem dX5_span_6 : decode cX5_span 6 = .ok (.invokestatic 72, 3) := by decide +kernel
theorem dX5_span_9 : decode cX5_span 9 = .ok (.invokestatic 114, 3) := by decide +kernel
theorem dX5_span_12 : decode cX5_span 12 = .ok (.istore 4, 2) := by decide +kernel
theorem dX5_span_14 : decode cX5_span 14 = .ok (.iload 4, 2) := by decide +kernel
theorem dX5_span_16 : decode cX5_span 16 = .ok (.ifCond .eq 10, 3) := by decide +kernel
theorem dX5_span_19 : decode cX5_span 19 = .ok (.aload_n 0, 1) := by decide +kernel
theorem dX5_span_20 : decode cX5_span 20 = .ok (.iload 4, 2) := by decide +kernel
theorem dX5_span_22 : decode cX5_span 22 = .ok (.invokevirtual 55, 3) := by decide +kernel
theorem dX5_span_25 : decode cX5_span 25 = .ok (.ireturn, 1) := by decide +kernel
theorem dX5_span_26 : decode cX5_span 26 = .ok (.aload_n 0, 1) := by decide +kernel
theorem dX5_span_27 : decode cX5_span 27 = .ok (.iload_n 1, 1) := by decide +kernel
theorem dX5_span_28 : decode cX5_span 28 = .ok (.invokestatic 83, 3) := by decide +kernel
theorem dX5_span_31 : decode cX5_span 31 = .ok (.iload_n 2, 1) := by decide +kernel
theorem dX5_span_32 : decode cX5_span 32 = .ok (.iload_n 3, 1) := by decide +kernel
theorem dX5_span_33 : decode cX5_span 33 = .ok (.invokevirtual 133, 3) := by decide +kernel
theorem dX5_span_36 : decode cX5_span 36 = .ok (.ireturn, 1) := by decide +kernel
set_option maxRecDepth 20000 in
theorem ggX5_times_X5_isMotif : GoodIn wsX5_times wsX5_isMotif := goodIn_r _ [5, 6, 110, 111, 112, 113, 114, 115, 116, 117, 118, 119] (by decide +kernel) (by decide +kernel)
set_option maxRecDepth 20000 in
theorem gX5_times_X5_isMotif : GoodIn wsX5_times (wsV RX5 69 RX5 yX5_isMotif wsX5_isMotif) := goodIn_app (goodIn_of _ (by decide +kernel)) ggX5_times_X5_isMotif
set_option maxRecDepth 20000 in
theorem ggX5_times_X5_isDay : GoodIn wsX5_times wsX5_isDay := goodIn_r _ [9, 10, 11, 4, 12] (by decide +kernel) (by decide +kernel)
set_option maxRecDepth 20000 in
theorem gX5_times_X5_isDay : GoodIn wsX5_times (va_wsS RX5 72 yX5_isDay wsX5_isDay) := goodIn_app (goodIn_of _ (by decide +kernel)) ggX5_times_X5_isDay
set_option maxRecDepth 20000 in
theorem ggX5_times_X5_whyNot : GoodIn wsX5_times wsX5_whyNot := goodIn_r _ [15] (by decide +kernel) (by decide +kernel)
set_option maxRecDepth 20000 in
theorem gX5_times_X5_whyNot : GoodIn wsX5_times (va_wsS RX5 114 yX5_whyNot wsX5_whyNot) := goodIn_app (goodIn_of _ (by decide +kernel)) ggX5_times_X5_whyNot
set_option maxRecDepth 20000 in
theorem ggX5_times_X5_refuse : GoodIn wsX5_times wsX5_refuse := goodIn_r _ [19, 20, 110, 111, 112, 113, 114, 115, 116, 117, 118, 119] (by decide +kernel) (by decide +kernel)
set_option maxRecDepth 20000 in
theorem gX5_times_X5_refuse : GoodIn wsX5_times (wsV RX5 55 RX5 yX5_refuse wsX5_refuse) := goodIn_app (goodIn_of _ (by decide +kernel)) ggX5_times_X5_refuse
set_option maxRecDepth 20000 in
theorem ggX5_times_X5_motifPoint : GoodIn wsX5_times wsX5_motifPoint := goodIn_r _ [23] (by decide +kernel) (by decide +kernel)
set_option maxRecDepth 20000 in
theorem gX5_times_X5_motifPoint : GoodIn wsX5_times (va_wsS RX5 86 yX5_motifPoint wsX5_motifPoint) := goodIn_app (goodIn_of _ (by decide +kernel)) ggX5_times_X5_motifPoint
set_option maxRecDepth 20000 in
theorem ggX5_times_X5_endOfSpan : GoodIn wsX5_times wsX5_endOfSpan := goodIn_r _ [27, 28, 29, 30, 31, 32, 33, 34, 35, 36, 37, 38, 39, 40, 41, 42, 43, 44, 45, 46, 47, 48, 49, 50, 51, 52, 53, 54, 55, 56, 57, 58, 59, 60, 61, 62, 63, 64, 65, 66, 67, 68, 69, 70, 71, 72, 73, 74, 75, 76, 77, 78, 79, 80, 81, 82, 83, 84, 85, 86, 87, 88, 89, 90, 91, 92, 93, 94, 95, 96, 97, 98, 99, 100, 101, 16, 17, 18, 4, 19, 20, 102, 103, 104, 105, 106, 107, 108, 109, 110, 111, 112, 113, 114, 115, 116, 117, 118, 119, 120, 121, 122, 123, 124, 125, 126, 127, 128, 129, 130, 131, 132, 133] (by decide +kernel) (by decide +kernel)
set_option maxRecDepth 20000 in
theorem gX5_times_X5_endOfSpan : GoodIn wsX5_times (wsV RX5 133 RX5 yX5_endOfSpan wsX5_endOfSpan) := goodIn_app (goodIn_of _ (by decide +kernel)) ggX5_times_X5_endOfSpan
theorem dX5_times_0 : decode cX5_times 0 = .ok (.aload_n 0, 1) := by decide +kernel
theorem dX5_times_1 : decode cX5_times 1 = .ok (.iload_n 1, 1) := by decide +kernel
theorem dX5_times_2 : decode cX5_times 2 = .ok (.invokevirtual 69, 3) := by decide +kernel
theorem dX5_times_5 : decode cX5_times 5 = .ok (.iload 4, 2) := by decide +kernel
theorem dX5_times_7 : decode cX5_times 7 = .ok (.invokestatic 72, 3) := by decide +kernel
theorem dX5_times_10 : decode cX5_times 10 = .ok (.invokestatic 114, 3) := by decide +kernel
theorem dX5_times_13 : decode cX5_times 13 = .ok (.istore 5, 2) := by decide +kernel
theorem dX5_times_15 : decode cX5_times 15 = .ok (.iload 5, 2) := by decide +kernel
theorem dX5_times_17 : decode cX5_times 17 = .ok (.ifCond .eq 10, 3) := by decide +kernel
theorem dX5_times_20 : decode cX5_times 20 = .ok (.aload_n 0, 1) := by decide +kernel
theorem dX5_times_21 : decode cX5_times 21 = .ok (.iload 5, 2) := by decide +kernel
theorem dX5_times_23 : decode cX5_times 23 = .ok (.invokevirtual 55, 3) := by decide +kernel
theorem dX5_times_26 : decode cX5_times 26 = .ok (.ireturn, 1) := by decide +kernel
theorem dX5_times_27 : decode cX5_times 27 = .ok (.aload_n 0, 1) := by decide +kernel
theorem dX5_times_28 : decode cX5_times 28 = .ok (.iload_n 1, 1) := by decide +kernel
theorem dX5_times_29 : decode cX5_times 29 = .ok (.iload_n 2, 1) := by decide +kernel
theorem dX5_times_30 : decode cX5_times 30 = .ok (.invokestatic 86, 3) := by decide +kernel
theorem dX5_times_33 : decode cX5_times 33 = .ok (.iload_n 3, 1) := by decide +kernel
theorem dX5_times_34 : decode cX5_times 34 = .ok (.iload 4, 2) := by decide +kernel
theorem dX5_times_36 : decode cX5_times 36 = .ok (.invokevirtual 133, 3) := by decide +kernel
theorem dX5_times_39 : decode cX5_times 39 = .ok (.ireturn, 1) := by decide +kernel
set_option maxRecDepth 20000 in
theorem ggX5_quarrel_X5_isDay : GoodIn wsX5_quarrel wsX5_isDay := goodIn_r _ [6, 7, 8, 5, 9] (by decide +kernel) (by decide +kernel)
set_option maxRecDepth 20000 in
theorem gX5_quarrel_X5_isDay : GoodIn wsX5_quarrel (va_wsS RX5 72 yX5_isDay wsX5_isDay) := goodIn_app (goodIn_of _ (by decide +kernel)) ggX5_quarrel_X5_isDay
set_option maxRecDepth 20000 in
theorem ggX5_quarrel_X5_refuse : GoodIn wsX5_quarrel wsX5_refuse := goodIn_r _ [13, 14, 104, 105, 106, 107, 108, 109, 110, 111, 112, 113] (by decide +kernel) (by decide +kernel)
set_option maxRecDepth 20000 in
theorem gX5_quarrel_X5_refuse : GoodIn wsX5_quarrel (wsV RX5 55 RX5 yX5_refuse wsX5_refuse) := goodIn_app (goodIn_of _ (by decide +kernel)) ggX5_quarrel_X5_refuse
set_option maxRecDepth 20000 in
theorem ggX5_quarrel_X4_gather : GoodIn wsX5_quarrel wsX4_gather := goodIn_r _ [19, 20, 21, 22, 23, 24, 25, 26, 27, 28, 29, 30, 31, 32, 33, 34, 35, 36, 37, 38, 39, 40, 41, 42, 43, 44, 45, 46, 47, 48, 49, 50, 51, 18, 52, 53, 54, 55, 114, 115, 116, 117, 118, 119, 120, 121, 122, 123, 124, 125, 126, 127] (by decide +kernel) (by decide +kernel)
set_option maxRecDepth 20000 in
theorem gX5_quarrel_X4_gather : GoodIn wsX5_quarrel (wsV RX5 137 RX4 yX4_gather wsX4_gather) := goodIn_app (goodIn_of _ (by decide +kernel)) ggX5_quarrel_X4_gather
set_option maxRecDepth 20000 in
theorem ggX5_quarrel_X4_measureFrom : GoodIn wsX5_quarrel wsX4_measureFrom := goodIn_r _ [59, 60, 61, 62, 63, 18, 64, 65, 66, 67, 68, 69, 70, 71, 72, 73, 74, 75, 76, 77, 78, 79, 80, 81, 82, 83, 84, 85, 86, 20, 53, 54, 55, 114, 115, 116, 117, 118, 119] (by decide +kernel) (by decide +kernel)
set_option maxRecDepth 20000 in
theorem gX5_quarrel_X4_measureFrom : GoodIn wsX5_quarrel (wsV RX5 141 RX4 yX4_measureFrom wsX4_measureFrom) := goodIn_app (goodIn_of _ (by decide +kernel)) ggX5_quarrel_X4_measureFrom
set_option maxRecDepth 20000 in
theorem ggX5_quarrel_X4_fewestLimits : GoodIn wsX5_quarrel wsX4_fewestLimits := goodIn_r _ [90, 91, 92, 93, 18, 94, 74, 75, 76, 77, 60, 95, 96, 97, 98, 99, 61, 62, 63, 64, 65, 66, 67, 68, 69, 70, 71, 72, 73, 78, 79, 80, 81, 82, 83, 84, 85, 86, 20, 53, 54, 55, 114, 115, 116, 117, 118, 119] (by decide +kernel) (by decide +kernel)
set_option maxRecDepth 20000 in
theorem gX5_quarrel_X4_fewestLimits : GoodIn wsX5_quarrel (wsV RX5 144 RX4 yX4_fewestLimits wsX4_fewestLimits) := goodIn_app (goodIn_of _ (by decide +kernel)) ggX5_quarrel_X4_fewestLimits
set_option maxRecDepth 20000 in
theorem ggX5_quarrel_X5_answer : GoodIn wsX5_quarrel wsX5_answer := goodIn_r _ [103, 14, 104, 105, 106, 107, 108, 109, 110, 111, 112, 113] (by decide +kernel) (by decide +kernel)
set_option maxRecDepth 20000 in
theorem gX5_quarrel_X5_answer : GoodIn wsX5_quarrel (wsV RX5 59 RX5 yX5_answer wsX5_answer) := goodIn_app (goodIn_of _ (by decide +kernel)) ggX5_quarrel_X5_answer
theorem dX5_quarrel_0 : decode cX5_quarrel 0 = .ok (.iload_n 1, 1) := by decide +kernel
theorem dX5_quarrel_1 : decode cX5_quarrel 1 = .ok (.invokestatic 72, 3) := by decide +kernel
theorem dX5_quarrel_4 : decode cX5_quarrel 4 = .ok (.ifCond .ne 9, 3) := by decide +kernel
theorem dX5_quarrel_7 : decode cX5_quarrel 7 = .ok (.aload_n 0, 1) := by decide +kernel
theorem dX5_quarrel_8 : decode cX5_quarrel 8 = .ok (.iconst 2, 1) := by decide +kernel
theorem dX5_quarrel_9 : decode cX5_quarrel 9 = .ok (.invokevirtual 55, 3) := by decide +kernel
theorem dX5_quarrel_12 : decode cX5_quarrel 12 = .ok (.ireturn, 1) := by decide +kernel
theorem dX5_quarrel_13 : decode cX5_quarrel 13 = .ok (.aload_n 0, 1) := by decide +kernel
theorem dX5_quarrel_14 : decode cX5_quarrel 14 = .ok (.getfield 19, 3) := by decide +kernel
theorem dX5_quarrel_17 : decode cX5_quarrel 17 = .ok (.aload_n 0, 1) := by decide +kernel
theorem dX5_quarrel_18 : decode cX5_quarrel 18 = .ok (.getfield 12, 3) := by decide +kernel
theorem dX5_quarrel_21 : decode cX5_quarrel 21 = .ok (.iload_n 1, 1) := by decide +kernel
theorem dX5_quarrel_22 : decode cX5_quarrel 22 = .ok (.iconst (-1), 1) := by decide +kernel
theorem dX5_quarrel_23 : decode cX5_quarrel 23 = .ok (.invokevirtual 137, 3) := by decide +kernel
theorem dX5_quarrel_26 : decode cX5_quarrel 26 = .ok (.aload_n 0, 1) := by decide +kernel
theorem dX5_quarrel_27 : decode cX5_quarrel 27 = .ok (.getfield 19, 3) := by decide +kernel
theorem dX5_quarrel_30 : decode cX5_quarrel 30 = .ok (.iconst 0, 1) := by decide +kernel
theorem dX5_quarrel_31 : decode cX5_quarrel 31 = .ok (.invokevirtual 141, 3) := by decide +kernel
theorem dX5_quarrel_34 : decode cX5_quarrel 34 = .ok (.ifCond .eq 10, 3) := by decide +kernel
theorem dX5_quarrel_37 : decode cX5_quarrel 37 = .ok (.aload_n 0, 1) := by decide +kernel
theorem dX5_quarrel_38 : decode cX5_quarrel 38 = .ok (.bipush 6, 2) := by decide +kernel
theorem dX5_quarrel_40 : decode cX5_quarrel 40 = .ok (.invokevirtual 55, 3) := by decide +kernel
theorem dX5_quarrel_43 : decode cX5_quarrel 43 = .ok (.ireturn, 1) := by decide +kernel
theorem dX5_quarrel_44 : decode cX5_quarrel 44 = .ok (.aload_n 0, 1) := by decide +kernel
theorem dX5_quarrel_45 : decode cX5_quarrel 45 = .ok (.aload_n 0, 1) := by decide +kernel
theorem dX5_quarrel_46 : decode cX5_quarrel 46 = .ok (.getfield 19, 3) := by decide +kernel
theorem dX5_quarrel_49 : decode cX5_quarrel 49 = .ok (.invokevirtual 144, 3) := by decide +kernel
theorem dX5_quarrel_52 : decode cX5_quarrel 52 = .ok (.invokevirtual 59, 3) := by decide +kernel
theorem dX5_quarrel_55 : decode cX5_quarrel 55 = .ok (.ireturn, 1) := by decide +kernel
set_option maxRecDepth 20000 in
theorem ggX5_frees_X2_has : GoodIn wsX5_frees wsX2_has := goodIn_r _ [7, 8, 106, 107, 108, 109, 110, 111, 112, 113] (by decide +kernel) (by decide +kernel)
set_option maxRecDepth 20000 in
theorem gX5_frees_X2_has : GoodIn wsX5_frees (wsV RX5 111 RX2 yX2_has wsX2_has) := goodIn_app (goodIn_of _ (by decide +kernel)) ggX5_frees_X2_has
set_option maxRecDepth 20000 in
theorem ggX5_frees_X5_isDay : GoodIn wsX5_frees wsX5_isDay := goodIn_r _ [12, 13, 14, 11, 15] (by decide +kernel) (by decide +kernel)
set_option maxRecDepth 20000 in
theorem gX5_frees_X5_isDay : GoodIn wsX5_frees (va_wsS RX5 72 yX5_isDay wsX5_isDay) := goodIn_app (goodIn_of _ (by decide +kernel)) ggX5_frees_X5_isDay
set_option maxRecDepth 20000 in
theorem ggX5_frees_X5_whyNot : GoodIn wsX5_frees wsX5_whyNot := goodIn_r _ [18] (by decide +kernel) (by decide +kernel)
set_option maxRecDepth 20000 in
theorem gX5_frees_X5_whyNot : GoodIn wsX5_frees (va_wsS RX5 114 yX5_whyNot wsX5_whyNot) := goodIn_app (goodIn_of _ (by decide +kernel)) ggX5_frees_X5_whyNot
set_option maxRecDepth 20000 in
theorem ggX5_frees_X5_refuse : GoodIn wsX5_frees wsX5_refuse := goodIn_r _ [22, 23, 96, 97, 98, 99, 100, 101, 102, 103, 104, 105] (by decide +kernel) (by decide +kernel)
set_option maxRecDepth 20000 in
theorem gX5_frees_X5_refuse : GoodIn wsX5_frees (wsV RX5 55 RX5 yX5_refuse wsX5_refuse) := goodIn_app (goodIn_of _ (by decide +kernel)) ggX5_frees_X5_refuse
set_option maxRecDepth 20000 in
theorem ggX5_frees_X4_gather : GoodIn wsX5_frees wsX4_gather := goodIn_r _ [28, 29, 30, 31, 32, 6, 33, 8, 34, 35, 36, 37, 38, 39, 40, 4, 5, 7, 41, 42, 43, 44, 45, 46, 47, 48, 49, 50, 51, 52, 53, 54, 55, 27, 56, 57, 58, 59, 114, 115, 116, 117, 118, 119, 106, 107, 108, 109, 110, 111, 112, 113] (by decide +kernel) (by decide +kernel)
set_option maxRecDepth 20000 in
theorem gX5_frees_X4_gather : GoodIn wsX5_frees (wsV RX5 137 RX4 yX4_gather wsX4_gather) := goodIn_app (goodIn_of _ (by decide +kernel)) ggX5_frees_X4_gather
set_option maxRecDepth 20000 in
theorem ggX5_frees_X4_measureFrom : GoodIn wsX5_frees wsX4_measureFrom := goodIn_r _ [63, 64, 65, 66, 67, 27, 68, 69, 70, 71, 72, 73, 74, 75, 76, 77, 78, 79, 80, 81, 82, 83, 84, 85, 86, 87, 88, 89, 90, 29, 57, 58, 59, 114, 115, 116, 117, 118, 119] (by decide +kernel) (by decide +kernel)
set_option maxRecDepth 20000 in
theorem gX5_frees_X4_measureFrom : GoodIn wsX5_frees (wsV RX5 141 RX4 yX4_measureFrom wsX4_measureFrom) := goodIn_app (goodIn_of _ (by decide +kernel)) ggX5_frees_X4_measureFrom
set_option maxRecDepth 20000 in
theorem ggX5_frees_X2_isKnown : GoodIn wsX5_frees wsX2_isKnown := goodIn_r _ [37, 38, 39, 40, 4, 5, 6, 7, 8, 106, 107, 108, 109, 110, 111, 112, 113] (by decide +kernel) (by decide +kernel)
set_option maxRecDepth 20000 in
theorem gX5_frees_X2_isKnown : GoodIn wsX5_frees (wsV RX5 148 RX2 yX2_isKnown wsX2_isKnown) := goodIn_app (goodIn_of _ (by decide +kernel)) ggX5_frees_X2_isKnown
set_option maxRecDepth 20000 in
theorem ggX5_frees_X5_answer : GoodIn wsX5_frees wsX5_answer := goodIn_r _ [95, 23, 96, 97, 98, 99, 100, 101, 102, 103, 104, 105] (by decide +kernel) (by decide +kernel)
set_option maxRecDepth 20000 in
theorem gX5_frees_X5_answer : GoodIn wsX5_frees (wsV RX5 59 RX5 yX5_answer wsX5_answer) := goodIn_app (goodIn_of _ (by decide +kernel)) ggX5_frees_X5_answer
theorem dX5_frees_0 : decode cX5_frees 0 = .ok (.aload_n 0, 1) := by decide +kernel
theorem dX5_frees_1 : decode cX5_frees 1 = .ok (.getfield 12, 3) := by decide +kernel
theorem dX5_frees_4 : decode cX5_frees 4 = .ok (.iload_n 1, 1) := by decide +kernel
theorem dX5_frees_5 : decode cX5_frees 5 = .ok (.invokevirtual 111, 3) := by decide +kernel
theorem dX5_frees_8 : decode cX5_frees 8 = .ok (.iload_n 2, 1) := by decide +kernel
theorem dX5_frees_9 : decode cX5_frees 9 = .ok (.invokestatic 72, 3) := by decide +kernel
theorem dX5_frees_12 : decode cX5_frees 12 = .ok (.invokestatic 114, 3) := by decide +kernel
theorem dX5_frees_15 : decode cX5_frees 15 = .ok (.istore_n 3, 1) := by decide +kernel
theorem dX5_frees_16 : decode cX5_frees 16 = .ok (.iload_n 3, 1) := by decide +kernel
theorem dX5_frees_17 : decode cX5_frees 17 = .ok (.ifCond .eq 9, 3) := by decide +kernel
theorem dX5_frees_20 : decode cX5_frees 20 = .ok (.aload_n 0, 1) := by decide +kernel
theorem dX5_frees_21 : decode cX5_frees 21 = .ok (.iload_n 3, 1) := by decide +kernel
theorem dX5_frees_22 : decode cX5_frees 22 = .ok (.invokevirtual 55, 3) := by decide +kernel
theorem dX5_frees_25 : decode cX5_frees 25 = .ok (.ireturn, 1) := by decide +kernel
theorem dX5_frees_26 : decode cX5_frees 26 = .ok (.aload_n 0, 1) := by decide +kernel
theorem dX5_frees_27 : decode cX5_frees 27 = .ok (.getfield 19, 3) := by decide +kernel
theorem dX5_frees_30 : decode cX5_frees 30 = .ok (.aload_n 0, 1) := by decide +kernel
theorem dX5_frees_31 : decode cX5_frees 31 = .ok (.getfield 12, 3) := by decide +kernel
theorem dX5_frees_34 : decode cX5_frees 34 = .ok (.iload_n 2, 1) := by decide +kernel
theorem dX5_frees_35 : decode cX5_frees 35 = .ok (.iconst (-1), 1) := by decide +kernel
theorem dX5_frees_36 : decode cX5_frees 36 = .ok (.invokevirtual 137, 3) := by decide +kernel
theorem dX5_frees_39 : decode cX5_frees 39 = .ok (.aload_n 0, 1) := by decide +kernel
theorem dX5_frees_40 : decode cX5_frees 40 = .ok (.getfield 19, 3) := by decide +kernel
theorem dX5_frees_43 : decode cX5_frees 43 = .ok (.iconst 0, 1) := by decide +kernel
theorem dX5_frees_44 : decode cX5_frees 44 = .ok (.invokevirtual 141, 3) := by decide +kernel
theorem dX5_frees_47 : decode cX5_frees 47 = .ok (.ifCond .eq 10, 3) := by decide +kernel
theorem dX5_frees_50 : decode cX5_frees 50 = .ok (.aload_n 0, 1) := by decide +kernel
theorem dX5_frees_51 : decode cX5_frees 51 = .ok (.bipush 6, 2) := by decide +kernel
theorem dX5_frees_53 : decode cX5_frees 53 = .ok (.invokevirtual 55, 3) := by decide +kernel
theorem dX5_frees_56 : decode cX5_frees 56 = .ok (.ireturn, 1) := by decide +kernel
theorem dX5_frees_57 : decode cX5_frees 57 = .ok (.aload_n 0, 1) := by decide +kernel
theorem dX5_frees_58 : decode cX5_frees 58 = .ok (.getfield 12, 3) := by decide +kernel
theorem dX5_frees_61 : decode cX5_frees 61 = .ok (.iload_n 1, 1) := by decide +kernel
theorem dX5_frees_62 : decode cX5_frees 62 = .ok (.iload_n 2, 1) := by decide +kernel
theorem dX5_frees_63 : decode cX5_frees 63 = .ok (.invokevirtual 148, 3) := by decide +kernel
theorem dX5_frees_66 : decode cX5_frees 66 = .ok (.ifCond .ne 10, 3) := by decide +kernel
theorem dX5_frees_69 : decode cX5_frees 69 = .ok (.aload_n 0, 1) := by decide +kernel
theorem dX5_frees_70 : decode cX5_frees 70 = .ok (.bipush 8, 2) := by decide +kernel
theorem dX5_frees_72 : decode cX5_frees 72 = .ok (.invokevirtual 55, 3) := by decide +kernel
theorem dX5_frees_75 : decode cX5_frees 75 = .ok (.ireturn, 1) := by decide +kernel
theorem dX5_frees_76 : decode cX5_frees 76 = .ok (.aload_n 0, 1) := by decide +kernel
theorem dX5_frees_77 : decode cX5_frees 77 = .ok (.getfield 19, 3) := by decide +kernel
theorem dX5_frees_80 : decode cX5_frees 80 = .ok (.aload_n 0, 1) := by decide +kernel
theorem dX5_frees_81 : decode cX5_frees 81 = .ok (.getfield 12, 3) := by decide +kernel
theorem dX5_frees_84 : decode cX5_frees 84 = .ok (.iload_n 2, 1) := by decide +kernel
theorem dX5_frees_85 : decode cX5_frees 85 = .ok (.iload_n 1, 1) := by decide +kernel
theorem dX5_frees_86 : decode cX5_frees 86 = .ok (.invokevirtual 137, 3) := by decide +kernel
theorem dX5_frees_89 : decode cX5_frees 89 = .ok (.aload_n 0, 1) := by decide +kernel
theorem dX5_frees_90 : decode cX5_frees 90 = .ok (.aload_n 0, 1) := by decide +kernel
theorem dX5_frees_91 : decode cX5_frees 91 = .ok (.getfield 19, 3) := by decide +kernel
theorem dX5_frees_94 : decode cX5_frees 94 = .ok (.iconst 0, 1) := by decide +kernel
theorem dX5_frees_95 : decode cX5_frees 95 = .ok (.invokevirtual 141, 3) := by decide +kernel
theorem dX5_frees_98 : decode cX5_frees 98 = .ok (.ifCond .eq 7, 3) := by decide +kernel
theorem dX5_frees_101 : decode cX5_frees 101 = .ok (.iconst 1, 1) := by decide +kernel
theorem dX5_frees_102 : decode cX5_frees 102 = .ok (.goto 4, 3) := by decide +kernel
theorem dX5_frees_105 : decode cX5_frees 105 = .ok (.iconst 0, 1) := by decide +kernel
theorem dX5_frees_106 : decode cX5_frees 106 = .ok (.invokevirtual 59, 3) := by decide +kernel
theorem dX5_frees_109 : decode cX5_frees 109 = .ok (.ireturn, 1) := by decide +kernel
set_option maxRecDepth 20000 in
theorem ggX5_order_X5_areTwoPlates : GoodIn wsX5_order wsX5_areTwoPlates := goodIn_r _ [7, 8, 9, 10, 6, 11, 12, 110, 111, 112, 113, 114, 115, 116, 117, 118, 119] (by decide +kernel) (by decide +kernel)
set_option maxRecDepth 20000 in
theorem gX5_order_X5_areTwoPlates : GoodIn wsX5_order (wsV RX5 94 RX5 yX5_areTwoPlates wsX5_areTwoPlates) := goodIn_app (goodIn_of _ (by decide +kernel)) ggX5_order_X5_areTwoPlates
set_option maxRecDepth 20000 in
theorem ggX5_order_X5_isDay : GoodIn wsX5_order wsX5_isDay := goodIn_r _ [15, 16, 17, 6, 18] (by decide +kernel) (by decide +kernel)
set_option maxRecDepth 20000 in
theorem gX5_order_X5_isDay : GoodIn wsX5_order (va_wsS RX5 72 yX5_isDay wsX5_isDay) := goodIn_app (goodIn_of _ (by decide +kernel)) ggX5_order_X5_isDay
set_option maxRecDepth 20000 in
theorem ggX5_order_X5_whyNot : GoodIn wsX5_order wsX5_whyNot := goodIn_r _ [21] (by decide +kernel) (by decide +kernel)
set_option maxRecDepth 20000 in
theorem gX5_order_X5_whyNot : GoodIn wsX5_order (va_wsS RX5 114 yX5_whyNot wsX5_whyNot) := goodIn_app (goodIn_of _ (by decide +kernel)) ggX5_order_X5_whyNot
set_option maxRecDepth 20000 in
theorem ggX5_order_X5_refuse : GoodIn wsX5_order wsX5_refuse := goodIn_r _ [25, 26, 110, 111, 112, 113, 114, 115, 116, 117, 118, 119] (by decide +kernel) (by decide +kernel)
set_option maxRecDepth 20000 in
theorem gX5_order_X5_refuse : GoodIn wsX5_order (wsV RX5 55 RX5 yX5_refuse wsX5_refuse) := goodIn_app (goodIn_of _ (by decide +kernel)) ggX5_order_X5_refuse
set_option maxRecDepth 20000 in
theorem ggX5_order_X4_gather : GoodIn wsX5_order wsX4_gather := goodIn_r _ [31, 32, 33, 34, 35, 36, 37, 38, 39, 40, 41, 42, 43, 44, 45, 46, 47, 48, 49, 50, 51, 52, 53, 54, 55, 56, 57, 58, 59, 60, 61, 62, 63, 30, 64, 65, 66, 67, 120, 121, 122, 123, 124, 125, 126, 127, 128, 129, 130, 131, 132, 133] (by decide +kernel) (by decide +kernel)
set_option maxRecDepth 20000 in
theorem gX5_order_X4_gather : GoodIn wsX5_order (wsV RX5 137 RX4 yX4_gather wsX4_gather) := goodIn_app (goodIn_of _ (by decide +kernel)) ggX5_order_X4_gather
set_option maxRecDepth 20000 in
theorem ggX5_order_X5_platePoint : GoodIn wsX5_order wsX5_platePoint := goodIn_r _ [70] (by decide +kernel) (by decide +kernel)
set_option maxRecDepth 20000 in
theorem gX5_order_X5_platePoint : GoodIn wsX5_order (va_wsS RX5 83 yX5_platePoint wsX5_platePoint) := goodIn_app (goodIn_of _ (by decide +kernel)) ggX5_order_X5_platePoint
set_option maxRecDepth 20000 in
theorem ggX5_order_X4_measureFrom : GoodIn wsX5_order wsX4_measureFrom := goodIn_r _ [74, 75, 76, 77, 78, 30, 79, 80, 81, 82, 83, 84, 85, 86, 87, 88, 89, 90, 91, 92, 93, 94, 95, 96, 97, 98, 99, 100, 101, 32, 65, 66, 67, 120, 121, 122, 123, 124, 125] (by decide +kernel) (by decide +kernel)
set_option maxRecDepth 20000 in
theorem gX5_order_X4_measureFrom : GoodIn wsX5_order (wsV RX5 141 RX4 yX4_measureFrom wsX4_measureFrom) := goodIn_app (goodIn_of _ (by decide +kernel)) ggX5_order_X4_measureFrom
set_option maxRecDepth 20000 in
theorem ggX5_order_X4_wayTo : GoodIn wsX5_order wsX4_wayTo := goodIn_r _ [105, 75, 80, 120, 121, 122, 123, 124, 125] (by decide +kernel) (by decide +kernel)
set_option maxRecDepth 20000 in
theorem gX5_order_X4_wayTo : GoodIn wsX5_order (wsV RX5 151 RX4 yX4_wayTo wsX4_wayTo) := goodIn_app (goodIn_of _ (by decide +kernel)) ggX5_order_X4_wayTo
set_option maxRecDepth 20000 in
theorem ggX5_order_X5_answer : GoodIn wsX5_order wsX5_answer := goodIn_r _ [109, 26, 110, 111, 112, 113, 114, 115, 116, 117, 118, 119] (by decide +kernel) (by decide +kernel)
set_option maxRecDepth 20000 in
theorem gX5_order_X5_answer : GoodIn wsX5_order (wsV RX5 59 RX5 yX5_answer wsX5_answer) := goodIn_app (goodIn_of _ (by decide +kernel)) ggX5_order_X5_answer
theorem dX5_order_0 : decode cX5_order 0 = .ok (.aload_n 0, 1) := by decide +kernel
theorem dX5_order_1 : decode cX5_order 1 = .ok (.iload_n 1, 1) := by decide +kernel
theorem dX5_order_2 : decode cX5_order 2 = .ok (.iload_n 2, 1) := by decide +kernel
theorem dX5_order_3 : decode cX5_order 3 = .ok (.invokevirtual 94, 3) := by decide +kernel
theorem dX5_order_6 : decode cX5_order 6 = .ok (.iload_n 3, 1) := by decide +kernel
theorem dX5_order_7 : decode cX5_order 7 = .ok (.invokestatic 72, 3) := by decide +kernel
theorem dX5_order_10 : decode cX5_order 10 = .ok (.invokestatic 114, 3) := by decide +kernel
theorem dX5_order_13 : decode cX5_order 13 = .ok (.istore 4, 2) := by decide +kernel
theorem dX5_order_15 : decode cX5_order 15 = .ok (.iload 4, 2) := by decide +kernel
theorem dX5_order_17 : decode cX5_order 17 = .ok (.ifCond .eq 10, 3) := by decide +kernel
theorem dX5_order_20 : decode cX5_order 20 = .ok (.aload_n 0, 1) := by decide +kernel
theorem dX5_order_21 : decode cX5_order 21 = .ok (.iload 4, 2) := by decide +kernel
theorem dX5_order_23 : decode cX5_order 23 = .ok (.invokevirtual 55, 3) := by decide +kernel
theorem dX5_order_26 : decode cX5_order 26 = .ok (.ireturn, 1) := by decide +kernel
theorem dX5_order_27 : decode cX5_order 27 = .ok (.aload_n 0, 1) := by decide +kernel
theorem dX5_order_28 : decode cX5_order 28 = .ok (.getfield 19, 3) := by decide +kernel
theorem dX5_order_31 : decode cX5_order 31 = .ok (.aload_n 0, 1) := by decide +kernel
theorem dX5_order_32 : decode cX5_order 32 = .ok (.getfield 12, 3) := by decide +kernel
theorem dX5_order_35 : decode cX5_order 35 = .ok (.iload_n 3, 1) := by decide +kernel
theorem dX5_order_36 : decode cX5_order 36 = .ok (.iconst (-1), 1) := by decide +kernel
theorem dX5_order_37 : decode cX5_order 37 = .ok (.invokevirtual 137, 3) := by decide +kernel
theorem dX5_order_40 : decode cX5_order 40 = .ok (.aload_n 0, 1) := by decide +kernel
theorem dX5_order_41 : decode cX5_order 41 = .ok (.getfield 19, 3) := by decide +kernel
theorem dX5_order_44 : decode cX5_order 44 = .ok (.iload_n 2, 1) := by decide +kernel
theorem dX5_order_45 : decode cX5_order 45 = .ok (.invokestatic 83, 3) := by decide +kernel
theorem dX5_order_48 : decode cX5_order 48 = .ok (.invokevirtual 141, 3) := by decide +kernel
theorem dX5_order_51 : decode cX5_order 51 = .ok (.ifCond .ne 9, 3) := by decide +kernel
theorem dX5_order_54 : decode cX5_order 54 = .ok (.aload_n 0, 1) := by decide +kernel
theorem dX5_order_55 : decode cX5_order 55 = .ok (.iconst 5, 1) := by decide +kernel
theorem dX5_order_56 : decode cX5_order 56 = .ok (.invokevirtual 55, 3) := by decide +kernel
theorem dX5_order_59 : decode cX5_order 59 = .ok (.ireturn, 1) := by decide +kernel
theorem dX5_order_60 : decode cX5_order 60 = .ok (.aload_n 0, 1) := by decide +kernel
theorem dX5_order_61 : decode cX5_order 61 = .ok (.getfield 19, 3) := by decide +kernel
theorem dX5_order_64 : decode cX5_order 64 = .ok (.iload_n 1, 1) := by decide +kernel
theorem dX5_order_65 : decode cX5_order 65 = .ok (.invokestatic 83, 3) := by decide +kernel
theorem dX5_order_68 : decode cX5_order 68 = .ok (.invokevirtual 151, 3) := by decide +kernel
theorem dX5_order_71 : decode cX5_order 71 = .ok (.ifCond .ge 9, 3) := by decide +kernel
theorem dX5_order_74 : decode cX5_order 74 = .ok (.aload_n 0, 1) := by decide +kernel
theorem dX5_order_75 : decode cX5_order 75 = .ok (.iconst 2, 1) := by decide +kernel
end
section
theorem dX5_order_76 : decode cX5_order 76 = .ok (.invokevirtual 59, 3) := by decide +kernel
theorem dX5_order_79 : decode cX5_order 79 = .ok (.ireturn, 1) := by decide +kernel
theorem dX5_order_80 : decode cX5_order 80 = .ok (.aload_n 0, 1) := by decide +kernel
theorem dX5_order_81 : decode cX5_order 81 = .ok (.getfield 19, 3) := by decide +kernel
theorem dX5_order_84 : decode cX5_order 84 = .ok (.iload_n 1, 1) := by decide +kernel
theorem dX5_order_85 : decode cX5_order 85 = .ok (.invokestatic 83, 3) := by decide +kernel
theorem dX5_order_88 : decode cX5_order 88 = .ok (.invokevirtual 141, 3) := by decide +kernel
theorem dX5_order_91 : decode cX5_order 91 = .ok (.ifCond .eq 21, 3) := by decide +kernel
theorem dX5_order_94 : decode cX5_order 94 = .ok (.aload_n 0, 1) := by decide +kernel
theorem dX5_order_95 : decode cX5_order 95 = .ok (.getfield 19, 3) := by decide +kernel
theorem dX5_order_98 : decode cX5_order 98 = .ok (.iload_n 2, 1) := by decide +kernel
theorem dX5_order_99 : decode cX5_order 99 = .ok (.invokestatic 83, 3) := by decide +kernel
theorem dX5_order_102 : decode cX5_order 102 = .ok (.invokevirtual 151, 3) := by decide +kernel
theorem dX5_order_105 : decode cX5_order 105 = .ok (.ifCond .le 7, 3) := by decide +kernel
theorem dX5_order_108 : decode cX5_order 108 = .ok (.iconst 1, 1) := by decide +kernel
theorem dX5_order_109 : decode cX5_order 109 = .ok (.goto 4, 3) := by decide +kernel
theorem dX5_order_112 : decode cX5_order 112 = .ok (.iconst 0, 1) := by decide +kernel
theorem dX5_order_113 : decode cX5_order 113 = .ok (.istore 5, 2) := by decide +kernel
theorem dX5_order_115 : decode cX5_order 115 = .ok (.aload_n 0, 1) := by decide +kernel
theorem dX5_order_116 : decode cX5_order 116 = .ok (.iload 5, 2) := by decide +kernel
theorem dX5_order_118 : decode cX5_order 118 = .ok (.ifCond .eq 7, 3) := by decide +kernel
theorem dX5_order_121 : decode cX5_order 121 = .ok (.iconst 1, 1) := by decide +kernel
theorem dX5_order_122 : decode cX5_order 122 = .ok (.goto 4, 3) := by decide +kernel
theorem dX5_order_125 : decode cX5_order 125 = .ok (.iconst 0, 1) := by decide +kernel
theorem dX5_order_126 : decode cX5_order 126 = .ok (.invokevirtual 59, 3) := by decide +kernel
theorem dX5_order_129 : decode cX5_order 129 = .ok (.ireturn, 1) := by decide +kernel
set_option maxRecDepth 20000 in
theorem ggX5_edges_X5_isWithin : GoodIn wsX5_edges wsX5_isWithin := goodIn_r _ [6] (by decide +kernel) (by decide +kernel)
set_option maxRecDepth 20000 in
theorem gX5_edges_X5_isWithin : GoodIn wsX5_edges (va_wsS RX5 100 yX5_isWithin wsX5_isWithin) := goodIn_app (goodIn_of _ (by decide +kernel)) ggX5_edges_X5_isWithin
set_option maxRecDepth 20000 in
theorem ggX5_edges_X5_isPlate : GoodIn wsX5_edges wsX5_isPlate := goodIn_r _ [10, 11, 32, 33, 34, 35, 36, 37, 38, 39, 40, 41] (by decide +kernel) (by decide +kernel)
set_option maxRecDepth 20000 in
theorem gX5_edges_X5_isPlate : GoodIn wsX5_edges (wsV RX5 65 RX5 yX5_isPlate wsX5_isPlate) := goodIn_app (goodIn_of _ (by decide +kernel)) ggX5_edges_X5_isPlate
set_option maxRecDepth 20000 in
theorem ggX5_edges_X5_whyNot : GoodIn wsX5_edges wsX5_whyNot := goodIn_r _ [14] (by decide +kernel) (by decide +kernel)
set_option maxRecDepth 20000 in
theorem gX5_edges_X5_whyNot : GoodIn wsX5_edges (va_wsS RX5 114 yX5_whyNot wsX5_whyNot) := goodIn_app (goodIn_of _ (by decide +kernel)) ggX5_edges_X5_whyNot
set_option maxRecDepth 20000 in
theorem ggX5_edges_X1_setEdges : GoodIn wsX5_edges wsX1_setEdges := goodIn_r _ [19, 20, 21, 22, 23, 24, 18, 25, 26, 27, 28, 29, 30, 31, 42, 43, 44, 45, 46] (by decide +kernel) (by decide +kernel)
set_option maxRecDepth 20000 in
theorem gX5_edges_X1_setEdges : GoodIn wsX5_edges (wsV RX5 154 RX1 yX1_setEdges wsX1_setEdges) := goodIn_app (goodIn_of _ (by decide +kernel)) ggX5_edges_X1_setEdges
theorem dX5_edges_0 : decode cX5_edges 0 = .ok (.iload_n 2, 1) := by decide +kernel
theorem dX5_edges_1 : decode cX5_edges 1 = .ok (.iconst 0, 1) := by decide +kernel
theorem dX5_edges_2 : decode cX5_edges 2 = .ok (.bipush 99, 2) := by decide +kernel
theorem dX5_edges_4 : decode cX5_edges 4 = .ok (.invokestatic 100, 3) := by decide +kernel
theorem dX5_edges_7 : decode cX5_edges 7 = .ok (.ifCond .eq 17, 3) := by decide +kernel
theorem dX5_edges_10 : decode cX5_edges 10 = .ok (.iload_n 3, 1) := by decide +kernel
theorem dX5_edges_11 : decode cX5_edges 11 = .ok (.iconst 0, 1) := by decide +kernel
theorem dX5_edges_12 : decode cX5_edges 12 = .ok (.bipush 99, 2) := by decide +kernel
theorem dX5_edges_14 : decode cX5_edges 14 = .ok (.invokestatic 100, 3) := by decide +kernel
theorem dX5_edges_17 : decode cX5_edges 17 = .ok (.ifCond .eq 7, 3) := by decide +kernel
theorem dX5_edges_20 : decode cX5_edges 20 = .ok (.iconst 1, 1) := by decide +kernel
theorem dX5_edges_21 : decode cX5_edges 21 = .ok (.goto 4, 3) := by decide +kernel
theorem dX5_edges_24 : decode cX5_edges 24 = .ok (.iconst 0, 1) := by decide +kernel
theorem dX5_edges_25 : decode cX5_edges 25 = .ok (.istore 4, 2) := by decide +kernel
theorem dX5_edges_27 : decode cX5_edges 27 = .ok (.aload_n 0, 1) := by decide +kernel
theorem dX5_edges_28 : decode cX5_edges 28 = .ok (.aload_n 0, 1) := by decide +kernel
theorem dX5_edges_29 : decode cX5_edges 29 = .ok (.iload_n 1, 1) := by decide +kernel
theorem dX5_edges_30 : decode cX5_edges 30 = .ok (.invokevirtual 65, 3) := by decide +kernel
theorem dX5_edges_33 : decode cX5_edges 33 = .ok (.iload 4, 2) := by decide +kernel
theorem dX5_edges_35 : decode cX5_edges 35 = .ok (.invokestatic 114, 3) := by decide +kernel
theorem dX5_edges_38 : decode cX5_edges 38 = .ok (.putfield 48, 3) := by decide +kernel
theorem dX5_edges_41 : decode cX5_edges 41 = .ok (.aload_n 0, 1) := by decide +kernel
theorem dX5_edges_42 : decode cX5_edges 42 = .ok (.getfield 48, 3) := by decide +kernel
theorem dX5_edges_45 : decode cX5_edges 45 = .ok (.ifCond .eq 5, 3) := by decide +kernel
theorem dX5_edges_48 : decode cX5_edges 48 = .ok (.iconst 0, 1) := by decide +kernel
theorem dX5_edges_49 : decode cX5_edges 49 = .ok (.ireturn, 1) := by decide +kernel
theorem dX5_edges_50 : decode cX5_edges 50 = .ok (.aload_n 0, 1) := by decide +kernel
theorem dX5_edges_51 : decode cX5_edges 51 = .ok (.getfield 26, 3) := by decide +kernel
theorem dX5_edges_54 : decode cX5_edges 54 = .ok (.iload_n 1, 1) := by decide +kernel
theorem dX5_edges_55 : decode cX5_edges 55 = .ok (.iload_n 2, 1) := by decide +kernel
theorem dX5_edges_56 : decode cX5_edges 56 = .ok (.iload_n 3, 1) := by decide +kernel
theorem dX5_edges_57 : decode cX5_edges 57 = .ok (.invokevirtual 154, 3) := by decide +kernel
theorem dX5_edges_60 : decode cX5_edges 60 = .ok (.iconst 1, 1) := by decide +kernel
theorem dX5_edges_61 : decode cX5_edges 61 = .ok (.ireturn, 1) := by decide +kernel
set_option maxRecDepth 20000 in
theorem ggX5_row_X5_whyNoRow : GoodIn wsX5_row wsX5_whyNoRow := goodIn_r _ [8, 1, 9, 10, 11, 7, 12, 13, 14, 15, 16, 17, 18, 19, 20, 21, 22, 23, 24, 25, 26, 27, 28, 29, 30, 31, 32, 33, 34, 35, 36, 37, 38, 39, 40, 41, 42, 43, 44, 45, 46, 47, 73, 74, 75, 76, 77, 78, 79, 80, 81, 82, 83, 84, 85, 86, 87] (by decide +kernel) (by decide +kernel)
set_option maxRecDepth 20000 in
theorem gX5_row_X5_whyNoRow : GoodIn wsX5_row (wsV RX5 157 RX5 yX5_whyNoRow wsX5_whyNoRow) := goodIn_app (goodIn_of _ (by decide +kernel)) ggX5_row_X5_whyNoRow
set_option maxRecDepth 20000 in
theorem ggX5_row_X5_refuse : GoodIn wsX5_row wsX5_refuse := goodIn_r _ [51, 52, 73, 74, 75, 76, 77, 78, 79, 80, 81, 82] (by decide +kernel) (by decide +kernel)
set_option maxRecDepth 20000 in
theorem gX5_row_X5_refuse : GoodIn wsX5_row (wsV RX5 55 RX5 yX5_refuse wsX5_refuse) := goodIn_app (goodIn_of _ (by decide +kernel)) ggX5_row_X5_refuse
set_option maxRecDepth 20000 in
theorem ggX5_row_X1_writeFirstRow : GoodIn wsX5_row wsX1_writeFirstRow := goodIn_r _ [56, 28, 57, 58, 59, 17, 60, 32, 33, 34, 35, 36, 29, 30, 31, 37, 38, 39, 40, 27, 19, 20, 21, 22, 41, 42, 43, 44, 45, 46, 47, 61, 62, 63, 64, 65, 66, 67, 68, 23, 24, 25, 26, 83, 84, 85, 86, 87] (by decide +kernel) (by decide +kernel)
set_option maxRecDepth 20000 in
theorem gX5_row_X1_writeFirstRow : GoodIn wsX5_row (wsV RX5 160 RX1 yX1_writeFirstRow wsX1_writeFirstRow) := goodIn_app (goodIn_of _ (by decide +kernel)) ggX5_row_X1_writeFirstRow
set_option maxRecDepth 20000 in
theorem ggX5_row_X5_answer : GoodIn wsX5_row wsX5_answer := goodIn_r _ [72, 52, 73, 74, 75, 76, 77, 78, 79, 80, 81, 82] (by decide +kernel) (by decide +kernel)
set_option maxRecDepth 20000 in
theorem gX5_row_X5_answer : GoodIn wsX5_row (wsV RX5 59 RX5 yX5_answer wsX5_answer) := goodIn_app (goodIn_of _ (by decide +kernel)) ggX5_row_X5_answer
theorem dX5_row_0 : decode cX5_row 0 = .ok (.aload_n 0, 1) := by decide +kernel
theorem dX5_row_1 : decode cX5_row 1 = .ok (.iload_n 1, 1) := by decide +kernel
theorem dX5_row_2 : decode cX5_row 2 = .ok (.invokevirtual 157, 3) := by decide +kernel
theorem dX5_row_5 : decode cX5_row 5 = .ok (.istore_n 2, 1) := by decide +kernel
theorem dX5_row_6 : decode cX5_row 6 = .ok (.iload_n 2, 1) := by decide +kernel
theorem dX5_row_7 : decode cX5_row 7 = .ok (.ifCond .eq 9, 3) := by decide +kernel
theorem dX5_row_10 : decode cX5_row 10 = .ok (.aload_n 0, 1) := by decide +kernel
theorem dX5_row_11 : decode cX5_row 11 = .ok (.iload_n 2, 1) := by decide +kernel
theorem dX5_row_12 : decode cX5_row 12 = .ok (.invokevirtual 55, 3) := by decide +kernel
theorem dX5_row_15 : decode cX5_row 15 = .ok (.ireturn, 1) := by decide +kernel
theorem dX5_row_16 : decode cX5_row 16 = .ok (.aload_n 0, 1) := by decide +kernel
theorem dX5_row_17 : decode cX5_row 17 = .ok (.aload_n 0, 1) := by decide +kernel
theorem dX5_row_18 : decode cX5_row 18 = .ok (.getfield 26, 3) := by decide +kernel
theorem dX5_row_21 : decode cX5_row 21 = .ok (.iload_n 1, 1) := by decide +kernel
theorem dX5_row_22 : decode cX5_row 22 = .ok (.aload_n 0, 1) := by decide +kernel
theorem dX5_row_23 : decode cX5_row 23 = .ok (.getfield 44, 3) := by decide +kernel
theorem dX5_row_26 : decode cX5_row 26 = .ok (.invokevirtual 160, 3) := by decide +kernel
theorem dX5_row_29 : decode cX5_row 29 = .ok (.putfield 164, 3) := by decide +kernel
theorem dX5_row_32 : decode cX5_row 32 = .ok (.aload_n 0, 1) := by decide +kernel
theorem dX5_row_33 : decode cX5_row 33 = .ok (.aload_n 0, 1) := by decide +kernel
theorem dX5_row_34 : decode cX5_row 34 = .ok (.getfield 164, 3) := by decide +kernel
theorem dX5_row_37 : decode cX5_row 37 = .ok (.invokevirtual 59, 3) := by decide +kernel
theorem dX5_row_40 : decode cX5_row 40 = .ok (.ireturn, 1) := by decide +kernel
set_option maxRecDepth 20000 in
theorem ggX5_ring_X5_whyNoRow : GoodIn wsX5_ring wsX5_whyNoRow := goodIn_r _ [6, 1, 7, 8, 9, 5, 10, 11, 12, 13, 14, 15, 16, 17, 18, 19, 20, 21, 22, 23, 24, 25, 26, 27, 28, 29, 30, 31, 32, 33, 34, 35, 36, 37, 38, 39, 40, 41, 42, 43, 44, 45, 56, 57, 58, 59, 60, 61, 62, 63, 64, 65, 66, 67, 68, 69, 70] (by decide +kernel) (by decide +kernel)
set_option maxRecDepth 20000 in
theorem gX5_ring_X5_whyNoRow : GoodIn wsX5_ring (wsV RX5 157 RX5 yX5_whyNoRow wsX5_whyNoRow) := goodIn_app (goodIn_of _ (by decide +kernel)) ggX5_ring_X5_whyNoRow
set_option maxRecDepth 20000 in
theorem ggX5_ring_X5_refuse : GoodIn wsX5_ring wsX5_refuse := goodIn_r _ [49, 50, 56, 57, 58, 59, 60, 61, 62, 63, 64, 65] (by decide +kernel) (by decide +kernel)
set_option maxRecDepth 20000 in
theorem gX5_ring_X5_refuse : GoodIn wsX5_ring (wsV RX5 55 RX5 yX5_refuse wsX5_refuse) := goodIn_app (goodIn_of _ (by decide +kernel)) ggX5_ring_X5_refuse
set_option maxRecDepth 20000 in
theorem ggX5_ring_X1_startsIn : GoodIn wsX5_ring wsX1_startsIn := goodIn_r _ [33, 34, 27, 28, 15, 29, 35, 36, 37, 38, 25, 17, 18, 19, 20, 39, 40, 41, 42, 43, 44, 45, 66, 67, 68, 69, 70] (by decide +kernel) (by decide +kernel)
set_option maxRecDepth 20000 in
theorem gX5_ring_X1_startsIn : GoodIn wsX5_ring (wsV RX5 167 RX1 yX1_startsIn wsX1_startsIn) := goodIn_app (goodIn_of _ (by decide +kernel)) ggX5_ring_X1_startsIn
set_option maxRecDepth 20000 in
theorem ggX5_ring_X5_answer : GoodIn wsX5_ring wsX5_answer := goodIn_r _ [55, 50, 56, 57, 58, 59, 60, 61, 62, 63, 64, 65] (by decide +kernel) (by decide +kernel)
set_option maxRecDepth 20000 in
theorem gX5_ring_X5_answer : GoodIn wsX5_ring (wsV RX5 59 RX5 yX5_answer wsX5_answer) := goodIn_app (goodIn_of _ (by decide +kernel)) ggX5_ring_X5_answer
theorem dX5_ring_0 : decode cX5_ring 0 = .ok (.aload_n 0, 1) := by decide +kernel
theorem dX5_ring_1 : decode cX5_ring 1 = .ok (.iload_n 1, 1) := by decide +kernel
theorem dX5_ring_2 : decode cX5_ring 2 = .ok (.invokevirtual 157, 3) := by decide +kernel
theorem dX5_ring_5 : decode cX5_ring 5 = .ok (.istore_n 2, 1) := by decide +kernel
theorem dX5_ring_6 : decode cX5_ring 6 = .ok (.iload_n 2, 1) := by decide +kernel
theorem dX5_ring_7 : decode cX5_ring 7 = .ok (.ifCond .eq 9, 3) := by decide +kernel
theorem dX5_ring_10 : decode cX5_ring 10 = .ok (.aload_n 0, 1) := by decide +kernel
theorem dX5_ring_11 : decode cX5_ring 11 = .ok (.iload_n 2, 1) := by decide +kernel
theorem dX5_ring_12 : decode cX5_ring 12 = .ok (.invokevirtual 55, 3) := by decide +kernel
theorem dX5_ring_15 : decode cX5_ring 15 = .ok (.ireturn, 1) := by decide +kernel
theorem dX5_ring_16 : decode cX5_ring 16 = .ok (.aload_n 0, 1) := by decide +kernel
theorem dX5_ring_17 : decode cX5_ring 17 = .ok (.aload_n 0, 1) := by decide +kernel
theorem dX5_ring_18 : decode cX5_ring 18 = .ok (.getfield 26, 3) := by decide +kernel
theorem dX5_ring_21 : decode cX5_ring 21 = .ok (.iload_n 1, 1) := by decide +kernel
theorem dX5_ring_22 : decode cX5_ring 22 = .ok (.invokevirtual 167, 3) := by decide +kernel
theorem dX5_ring_25 : decode cX5_ring 25 = .ok (.ifCond .ne 7, 3) := by decide +kernel
theorem dX5_ring_28 : decode cX5_ring 28 = .ok (.iconst 1, 1) := by decide +kernel
theorem dX5_ring_29 : decode cX5_ring 29 = .ok (.goto 4, 3) := by decide +kernel
theorem dX5_ring_32 : decode cX5_ring 32 = .ok (.iconst 0, 1) := by decide +kernel
theorem dX5_ring_33 : decode cX5_ring 33 = .ok (.invokevirtual 59, 3) := by decide +kernel
theorem dX5_ring_36 : decode cX5_ring 36 = .ok (.ireturn, 1) := by decide +kernel
set_option maxRecDepth 20000 in
theorem ggX5_rows_X5_isSet : GoodIn wsX5_rows wsX5_isSet := goodIn_r _ [6, 7, 51, 52, 53, 54, 55, 56, 57, 58, 59, 60] (by decide +kernel) (by decide +kernel)
set_option maxRecDepth 20000 in
theorem gX5_rows_X5_isSet : GoodIn wsX5_rows (wsV RX5 170 RX5 yX5_isSet wsX5_isSet) := goodIn_app (goodIn_of _ (by decide +kernel)) ggX5_rows_X5_isSet
set_option maxRecDepth 20000 in
theorem ggX5_rows_X5_refuse : GoodIn wsX5_rows wsX5_refuse := goodIn_r _ [11, 12, 51, 52, 53, 54, 55, 56, 57, 58, 59, 60] (by decide +kernel) (by decide +kernel)
set_option maxRecDepth 20000 in
theorem gX5_rows_X5_refuse : GoodIn wsX5_rows (wsV RX5 55 RX5 yX5_refuse wsX5_refuse) := goodIn_app (goodIn_of _ (by decide +kernel)) ggX5_rows_X5_refuse
set_option maxRecDepth 20000 in
theorem ggX5_rows_X1_fewestRows : GoodIn wsX5_rows wsX1_fewestRows := goodIn_r _ [17, 18, 19, 20, 21, 22, 23, 24, 16, 25, 26, 27, 28, 29, 30, 31, 32, 33, 34, 35, 36, 37, 38, 39, 40, 41, 42, 43, 44, 45, 46, 61, 62, 63, 64, 65] (by decide +kernel) (by decide +kernel)
set_option maxRecDepth 20000 in
theorem gX5_rows_X1_fewestRows : GoodIn wsX5_rows (wsV RX5 173 RX1 yX1_fewestRows wsX1_fewestRows) := goodIn_app (goodIn_of _ (by decide +kernel)) ggX5_rows_X1_fewestRows
set_option maxRecDepth 20000 in
theorem ggX5_rows_X5_answer : GoodIn wsX5_rows wsX5_answer := goodIn_r _ [50, 12, 51, 52, 53, 54, 55, 56, 57, 58, 59, 60] (by decide +kernel) (by decide +kernel)
set_option maxRecDepth 20000 in
theorem gX5_rows_X5_answer : GoodIn wsX5_rows (wsV RX5 59 RX5 yX5_answer wsX5_answer) := goodIn_app (goodIn_of _ (by decide +kernel)) ggX5_rows_X5_answer
theorem dX5_rows_0 : decode cX5_rows 0 = .ok (.aload_n 0, 1) := by decide +kernel
theorem dX5_rows_1 : decode cX5_rows 1 = .ok (.iload_n 1, 1) := by decide +kernel
theorem dX5_rows_2 : decode cX5_rows 2 = .ok (.invokevirtual 170, 3) := by decide +kernel
theorem dX5_rows_5 : decode cX5_rows 5 = .ok (.ifCond .ne 9, 3) := by decide +kernel
theorem dX5_rows_8 : decode cX5_rows 8 = .ok (.aload_n 0, 1) := by decide +kernel
theorem dX5_rows_9 : decode cX5_rows 9 = .ok (.iconst 2, 1) := by decide +kernel
theorem dX5_rows_10 : decode cX5_rows 10 = .ok (.invokevirtual 55, 3) := by decide +kernel
theorem dX5_rows_13 : decode cX5_rows 13 = .ok (.ireturn, 1) := by decide +kernel
theorem dX5_rows_14 : decode cX5_rows 14 = .ok (.aload_n 0, 1) := by decide +kernel
theorem dX5_rows_15 : decode cX5_rows 15 = .ok (.aload_n 0, 1) := by decide +kernel
theorem dX5_rows_16 : decode cX5_rows 16 = .ok (.getfield 26, 3) := by decide +kernel
theorem dX5_rows_19 : decode cX5_rows 19 = .ok (.iload_n 1, 1) := by decide +kernel
theorem dX5_rows_20 : decode cX5_rows 20 = .ok (.invokevirtual 173, 3) := by decide +kernel
theorem dX5_rows_23 : decode cX5_rows 23 = .ok (.invokevirtual 59, 3) := by decide +kernel
theorem dX5_rows_26 : decode cX5_rows 26 = .ok (.ireturn, 1) := by decide +kernel
theorem dX5_out_0 : decode cX5_out 0 = .ok (.iload_n 1, 1) := by decide +kernel
theorem dX5_out_1 : decode cX5_out 1 = .ok (.ifCond .lt 20, 3) := by decide +kernel
theorem dX5_out_4 : decode cX5_out 4 = .ok (.iload_n 1, 1) := by decide +kernel
theorem dX5_out_5 : decode cX5_out 5 = .ok (.aload_n 0, 1) := by decide +kernel
theorem dX5_out_6 : decode cX5_out 6 = .ok (.getfield 164, 3) := by decide +kernel
theorem dX5_out_9 : decode cX5_out 9 = .ok (.if_icmp .ge 12, 3) := by decide +kernel
theorem dX5_out_12 : decode cX5_out 12 = .ok (.iload_n 1, 1) := by decide +kernel
theorem dX5_out_13 : decode cX5_out 13 = .ok (.aload_n 0, 1) := by decide +kernel
theorem dX5_out_14 : decode cX5_out 14 = .ok (.getfield 44, 3) := by decide +kernel
theorem dX5_out_17 : decode cX5_out 17 = .ok (.arraylength, 1) := by decide +kernel
theorem dX5_out_18 : decode cX5_out 18 = .ok (.if_icmp .lt 5, 3) := by decide +kernel
theorem dX5_out_21 : decode cX5_out 21 = .ok (.iconst (-1), 1) := by decide +kernel
theorem dX5_out_22 : decode cX5_out 22 = .ok (.ireturn, 1) := by decide +kernel
theorem dX5_out_23 : decode cX5_out 23 = .ok (.aload_n 0, 1) := by decide +kernel
theorem dX5_out_24 : decode cX5_out 24 = .ok (.getfield 44, 3) := by decide +kernel
theorem dX5_out_27 : decode cX5_out 27 = .ok (.iload_n 1, 1) := by decide +kernel
theorem dX5_out_28 : decode cX5_out 28 = .ok (.iaload, 1) := by decide +kernel
theorem dX5_out_29 : decode cX5_out 29 = .ok (.ireturn, 1) := by decide +kernel
set_option maxRecDepth 20000 in
theorem ggX5_want_X5_isWithin : GoodIn wsX5_want wsX5_isWithin := goodIn_r _ [6] (by decide +kernel) (by decide +kernel)
set_option maxRecDepth 20000 in
theorem gX5_want_X5_isWithin : GoodIn wsX5_want (va_wsS RX5 100 yX5_isWithin wsX5_isWithin) := goodIn_app (goodIn_of _ (by decide +kernel)) ggX5_want_X5_isWithin
set_option maxRecDepth 20000 in
theorem ggX5_want_X5_isPlate : GoodIn wsX5_want wsX5_isPlate := goodIn_r _ [10, 11, 23, 24, 25, 26, 27, 28, 29, 30, 31, 32] (by decide +kernel) (by decide +kernel)
set_option maxRecDepth 20000 in
theorem gX5_want_X5_isPlate : GoodIn wsX5_want (wsV RX5 65 RX5 yX5_isPlate wsX5_isPlate) := goodIn_app (goodIn_of _ (by decide +kernel)) ggX5_want_X5_isPlate
set_option maxRecDepth 20000 in
theorem ggX5_want_X5_whyNot : GoodIn wsX5_want wsX5_whyNot := goodIn_r _ [14] (by decide +kernel) (by decide +kernel)
set_option maxRecDepth 20000 in
theorem gX5_want_X5_whyNot : GoodIn wsX5_want (va_wsS RX5 114 yX5_whyNot wsX5_whyNot) := goodIn_app (goodIn_of _ (by decide +kernel)) ggX5_want_X5_whyNot
set_option maxRecDepth 20000 in
theorem ggX5_want_X0_setWish : GoodIn wsX5_want wsX0_setWish := goodIn_r _ [19, 20, 21, 22, 33, 34, 35, 36, 37, 38] (by decide +kernel) (by decide +kernel)
set_option maxRecDepth 20000 in
theorem gX5_want_X0_setWish : GoodIn wsX5_want (wsV RX5 176 RX0 yX0_setWish wsX0_setWish) := goodIn_app (goodIn_of _ (by decide +kernel)) ggX5_want_X0_setWish
theorem dX5_want_0 : decode cX5_want 0 = .ok (.iload_n 2, 1) := by decide +kernel
theorem dX5_want_1 : decode cX5_want 1 = .ok (.iconst 0, 1) := by decide +kernel
theorem dX5_want_2 : decode cX5_want 2 = .ok (.bipush 99, 2) := by decide +kernel
theorem dX5_want_4 : decode cX5_want 4 = .ok (.invokestatic 100, 3) := by decide +kernel
theorem dX5_want_7 : decode cX5_want 7 = .ok (.ifCond .eq 29, 3) := by decide +kernel
theorem dX5_want_10 : decode cX5_want 10 = .ok (.iload_n 3, 1) := by decide +kernel
theorem dX5_want_11 : decode cX5_want 11 = .ok (.iconst 1, 1) := by decide +kernel
theorem dX5_want_12 : decode cX5_want 12 = .ok (.bipush 50, 2) := by decide +kernel
theorem dX5_want_14 : decode cX5_want 14 = .ok (.invokestatic 100, 3) := by decide +kernel
theorem dX5_want_17 : decode cX5_want 17 = .ok (.ifCond .eq 19, 3) := by decide +kernel
theorem dX5_want_20 : decode cX5_want 20 = .ok (.iload 4, 2) := by decide +kernel
theorem dX5_want_22 : decode cX5_want 22 = .ok (.iconst 1, 1) := by decide +kernel
theorem dX5_want_23 : decode cX5_want 23 = .ok (.sipush 500, 3) := by decide +kernel
theorem dX5_want_26 : decode cX5_want 26 = .ok (.invokestatic 100, 3) := by decide +kernel
theorem dX5_want_29 : decode cX5_want 29 = .ok (.ifCond .eq 7, 3) := by decide +kernel
theorem dX5_want_32 : decode cX5_want 32 = .ok (.iconst 1, 1) := by decide +kernel
theorem dX5_want_33 : decode cX5_want 33 = .ok (.goto 4, 3) := by decide +kernel
theorem dX5_want_36 : decode cX5_want 36 = .ok (.iconst 0, 1) := by decide +kernel
theorem dX5_want_37 : decode cX5_want 37 = .ok (.istore 5, 2) := by decide +kernel
theorem dX5_want_39 : decode cX5_want 39 = .ok (.aload_n 0, 1) := by decide +kernel
theorem dX5_want_40 : decode cX5_want 40 = .ok (.aload_n 0, 1) := by decide +kernel
theorem dX5_want_41 : decode cX5_want 41 = .ok (.iload_n 1, 1) := by decide +kernel
theorem dX5_want_42 : decode cX5_want 42 = .ok (.invokevirtual 65, 3) := by decide +kernel
theorem dX5_want_45 : decode cX5_want 45 = .ok (.iload 5, 2) := by decide +kernel
theorem dX5_want_47 : decode cX5_want 47 = .ok (.invokestatic 114, 3) := by decide +kernel
theorem dX5_want_50 : decode cX5_want 50 = .ok (.putfield 48, 3) := by decide +kernel
theorem dX5_want_53 : decode cX5_want 53 = .ok (.aload_n 0, 1) := by decide +kernel
theorem dX5_want_54 : decode cX5_want 54 = .ok (.getfield 48, 3) := by decide +kernel
theorem dX5_want_57 : decode cX5_want 57 = .ok (.ifCond .eq 5, 3) := by decide +kernel
theorem dX5_want_60 : decode cX5_want 60 = .ok (.iconst 0, 1) := by decide +kernel
theorem dX5_want_61 : decode cX5_want 61 = .ok (.ireturn, 1) := by decide +kernel
theorem dX5_want_62 : decode cX5_want 62 = .ok (.aload_n 0, 1) := by decide +kernel
theorem dX5_want_63 : decode cX5_want 63 = .ok (.getfield 33, 3) := by decide +kernel
theorem dX5_want_66 : decode cX5_want 66 = .ok (.iload_n 1, 1) := by decide +kernel
theorem dX5_want_67 : decode cX5_want 67 = .ok (.iload_n 2, 1) := by decide +kernel
theorem dX5_want_68 : decode cX5_want 68 = .ok (.iload_n 3, 1) := by decide +kernel
theorem dX5_want_69 : decode cX5_want 69 = .ok (.iload 4, 2) := by decide +kernel
theorem dX5_want_71 : decode cX5_want 71 = .ok (.invokevirtual 176, 3) := by decide +kernel
theorem dX5_want_74 : decode cX5_want 74 = .ok (.iconst 1, 1) := by decide +kernel
theorem dX5_want_75 : decode cX5_want 75 = .ok (.ireturn, 1) := by decide +kernel
set_option maxRecDepth 20000 in
theorem ggX5_best_X0_choose : GoodIn wsX5_best wsX0_choose := goodIn_r _ [7, 8, 9, 10, 11, 12, 13, 14, 15, 16, 17, 18, 19, 20, 21, 22, 23, 6, 24, 25, 26, 27, 28, 29, 30, 31, 32, 33, 34, 35, 36, 37, 38, 39, 40, 61, 62, 63, 64, 65, 66] (by decide +kernel) (by decide +kernel)
set_option maxRecDepth 20000 in
theorem gX5_best_X0_choose : GoodIn wsX5_best (wsV RX5 180 RX0 yX0_choose wsX0_choose) := goodIn_app (goodIn_of _ (by decide +kernel)) ggX5_best_X0_choose
set_option maxRecDepth 20000 in
theorem ggX5_best_X0_wantedTogether : GoodIn wsX5_best wsX0_wantedTogether := goodIn_r _ [44, 17, 61, 62, 63, 64, 65, 66] (by decide +kernel) (by decide +kernel)
set_option maxRecDepth 20000 in
theorem gX5_best_X0_wantedTogether : GoodIn wsX5_best (wsV RX5 184 RX0 yX0_wantedTogether wsX0_wantedTogether) := goodIn_app (goodIn_of _ (by decide +kernel)) ggX5_best_X0_wantedTogether
set_option maxRecDepth 20000 in
theorem ggX5_best_X5_answer : GoodIn wsX5_best wsX5_answer := goodIn_r _ [49, 50, 51, 52, 53, 54, 55, 56, 57, 58, 59, 60] (by decide +kernel) (by decide +kernel)
set_option maxRecDepth 20000 in
theorem gX5_best_X5_answer : GoodIn wsX5_best (wsV RX5 59 RX5 yX5_answer wsX5_answer) := goodIn_app (goodIn_of _ (by decide +kernel)) ggX5_best_X5_answer
theorem dX5_best_0 : decode cX5_best 0 = .ok (.aload_n 0, 1) := by decide +kernel
theorem dX5_best_1 : decode cX5_best 1 = .ok (.getfield 33, 3) := by decide +kernel
theorem dX5_best_4 : decode cX5_best 4 = .ok (.aload_n 0, 1) := by decide +kernel
theorem dX5_best_5 : decode cX5_best 5 = .ok (.getfield 52, 3) := by decide +kernel
theorem dX5_best_8 : decode cX5_best 8 = .ok (.invokevirtual 180, 3) := by decide +kernel
theorem dX5_best_11 : decode cX5_best 11 = .ok (.aload_n 0, 1) := by decide +kernel
theorem dX5_best_12 : decode cX5_best 12 = .ok (.aload_n 0, 1) := by decide +kernel
theorem dX5_best_13 : decode cX5_best 13 = .ok (.getfield 33, 3) := by decide +kernel
theorem dX5_best_16 : decode cX5_best 16 = .ok (.invokevirtual 184, 3) := by decide +kernel
theorem dX5_best_19 : decode cX5_best 19 = .ok (.invokevirtual 59, 3) := by decide +kernel
theorem dX5_best_22 : decode cX5_best 22 = .ok (.ireturn, 1) := by decide +kernel
set_option maxRecDepth 20000 in
theorem ggX5_hour_X5_isPlate : GoodIn wsX5_hour wsX5_isPlate := goodIn_r _ [7, 2, 64, 65, 66, 67, 68, 69, 70, 71, 72, 73] (by decide +kernel) (by decide +kernel)
set_option maxRecDepth 20000 in
theorem gX5_hour_X5_isPlate : GoodIn wsX5_hour (wsV RX5 65 RX5 yX5_isPlate wsX5_isPlate) := goodIn_app (goodIn_of _ (by decide +kernel)) ggX5_hour_X5_isPlate
set_option maxRecDepth 20000 in
theorem ggX5_hour_X5_refuse : GoodIn wsX5_hour wsX5_refuse := goodIn_r _ [11, 12, 64, 65, 66, 67, 68, 69, 70, 71, 72, 73] (by decide +kernel) (by decide +kernel)
set_option maxRecDepth 20000 in
theorem gX5_hour_X5_refuse : GoodIn wsX5_hour (wsV RX5 55 RX5 yX5_refuse wsX5_refuse) := goodIn_app (goodIn_of _ (by decide +kernel)) ggX5_hour_X5_refuse
set_option maxRecDepth 20000 in
theorem ggX5_hour_X0_choose : GoodIn wsX5_hour wsX0_choose := goodIn_r _ [17, 18, 19, 20, 21, 22, 23, 24, 25, 26, 27, 28, 29, 30, 31, 32, 33, 16, 34, 35, 36, 37, 38, 39, 40, 41, 42, 43, 44, 45, 46, 47, 48, 49, 50, 74, 75, 76, 77, 78, 79] (by decide +kernel) (by decide +kernel)
set_option maxRecDepth 20000 in
theorem gX5_hour_X0_choose : GoodIn wsX5_hour (wsV RX5 180 RX0 yX0_choose wsX0_choose) := goodIn_app (goodIn_of _ (by decide +kernel)) ggX5_hour_X0_choose
set_option maxRecDepth 20000 in
theorem ggX5_hour_X0_isChosen : GoodIn wsX5_hour wsX0_isChosen := goodIn_r _ [54, 27, 48, 49, 16, 50, 74, 75, 76, 77, 78, 79] (by decide +kernel) (by decide +kernel)
set_option maxRecDepth 20000 in
theorem gX5_hour_X0_isChosen : GoodIn wsX5_hour (wsV RX5 187 RX0 yX0_isChosen wsX0_isChosen) := goodIn_app (goodIn_of _ (by decide +kernel)) ggX5_hour_X0_isChosen
set_option maxRecDepth 20000 in
theorem ggX5_hour_X0_beginningOf : GoodIn wsX5_hour wsX0_beginningOf := goodIn_r _ [58, 24, 25, 59, 52, 53, 16, 54, 27, 48, 49, 50, 74, 75, 76, 77, 78, 79] (by decide +kernel) (by decide +kernel)
set_option maxRecDepth 20000 in
theorem gX5_hour_X0_beginningOf : GoodIn wsX5_hour (wsV RX5 190 RX0 yX0_beginningOf wsX0_beginningOf) := goodIn_app (goodIn_of _ (by decide +kernel)) ggX5_hour_X0_beginningOf
set_option maxRecDepth 20000 in
theorem ggX5_hour_X5_answer : GoodIn wsX5_hour wsX5_answer := goodIn_r _ [63, 12, 64, 65, 66, 67, 68, 69, 70, 71, 72, 73] (by decide +kernel) (by decide +kernel)
set_option maxRecDepth 20000 in
theorem gX5_hour_X5_answer : GoodIn wsX5_hour (wsV RX5 59 RX5 yX5_answer wsX5_answer) := goodIn_app (goodIn_of _ (by decide +kernel)) ggX5_hour_X5_answer
theorem dX5_hour_0 : decode cX5_hour 0 = .ok (.aload_n 0, 1) := by decide +kernel
theorem dX5_hour_1 : decode cX5_hour 1 = .ok (.iload_n 1, 1) := by decide +kernel
theorem dX5_hour_2 : decode cX5_hour 2 = .ok (.invokevirtual 65, 3) := by decide +kernel
theorem dX5_hour_5 : decode cX5_hour 5 = .ok (.ifCond .ne 9, 3) := by decide +kernel
theorem dX5_hour_8 : decode cX5_hour 8 = .ok (.aload_n 0, 1) := by decide +kernel
theorem dX5_hour_9 : decode cX5_hour 9 = .ok (.iconst 1, 1) := by decide +kernel
theorem dX5_hour_10 : decode cX5_hour 10 = .ok (.invokevirtual 55, 3) := by decide +kernel
theorem dX5_hour_13 : decode cX5_hour 13 = .ok (.ireturn, 1) := by decide +kernel
theorem dX5_hour_14 : decode cX5_hour 14 = .ok (.aload_n 0, 1) := by decide +kernel
theorem dX5_hour_15 : decode cX5_hour 15 = .ok (.getfield 33, 3) := by decide +kernel
theorem dX5_hour_18 : decode cX5_hour 18 = .ok (.aload_n 0, 1) := by decide +kernel
theorem dX5_hour_19 : decode cX5_hour 19 = .ok (.getfield 52, 3) := by decide +kernel
theorem dX5_hour_22 : decode cX5_hour 22 = .ok (.invokevirtual 180, 3) := by decide +kernel
theorem dX5_hour_25 : decode cX5_hour 25 = .ok (.aload_n 0, 1) := by decide +kernel
theorem dX5_hour_26 : decode cX5_hour 26 = .ok (.getfield 33, 3) := by decide +kernel
theorem dX5_hour_29 : decode cX5_hour 29 = .ok (.iload_n 1, 1) := by decide +kernel
theorem dX5_hour_30 : decode cX5_hour 30 = .ok (.invokevirtual 187, 3) := by decide +kernel
theorem dX5_hour_33 : decode cX5_hour 33 = .ok (.ifCond .ne 10, 3) := by decide +kernel
theorem dX5_hour_36 : decode cX5_hour 36 = .ok (.aload_n 0, 1) := by decide +kernel
theorem dX5_hour_37 : decode cX5_hour 37 = .ok (.bipush 8, 2) := by decide +kernel
theorem dX5_hour_39 : decode cX5_hour 39 = .ok (.invokevirtual 55, 3) := by decide +kernel
theorem dX5_hour_42 : decode cX5_hour 42 = .ok (.ireturn, 1) := by decide +kernel
theorem dX5_hour_43 : decode cX5_hour 43 = .ok (.aload_n 0, 1) := by decide +kernel
theorem dX5_hour_44 : decode cX5_hour 44 = .ok (.aload_n 0, 1) := by decide +kernel
theorem dX5_hour_45 : decode cX5_hour 45 = .ok (.getfield 33, 3) := by decide +kernel
theorem dX5_hour_48 : decode cX5_hour 48 = .ok (.iload_n 1, 1) := by decide +kernel
theorem dX5_hour_49 : decode cX5_hour 49 = .ok (.aload_n 0, 1) := by decide +kernel
theorem dX5_hour_50 : decode cX5_hour 50 = .ok (.getfield 52, 3) := by decide +kernel
theorem dX5_hour_53 : decode cX5_hour 53 = .ok (.invokevirtual 190, 3) := by decide +kernel
theorem dX5_hour_56 : decode cX5_hour 56 = .ok (.invokevirtual 59, 3) := by decide +kernel
theorem dX5_hour_59 : decode cX5_hour 59 = .ok (.ireturn, 1) := by decide +kernel
set_option maxRecDepth 20000 in
theorem ggX5_law_X5_isWithin : GoodIn wsX5_law wsX5_isWithin := goodIn_r _ [8] (by decide +kernel) (by decide +kernel)
set_option maxRecDepth 20000 in
theorem gX5_law_X5_isWithin : GoodIn wsX5_law (va_wsS RX5 100 yX5_isWithin wsX5_isWithin) := goodIn_app (goodIn_of _ (by decide +kernel)) ggX5_law_X5_isWithin
set_option maxRecDepth 20000 in
theorem ggX5_law_X5_whyNot : GoodIn wsX5_law wsX5_whyNot := goodIn_r _ [11] (by decide +kernel) (by decide +kernel)
set_option maxRecDepth 20000 in
theorem gX5_law_X5_whyNot : GoodIn wsX5_law (va_wsS RX5 114 yX5_whyNot wsX5_whyNot) := goodIn_app (goodIn_of _ (by decide +kernel)) ggX5_law_X5_whyNot
set_option maxRecDepth 20000 in
theorem ggX5_law_X3_hasAllLaws : GoodIn wsX5_law wsX3_hasAllLaws := goodIn_r _ [16, 17, 35, 36, 37, 38, 39, 40, 41] (by decide +kernel) (by decide +kernel)
set_option maxRecDepth 20000 in
theorem gX5_law_X3_hasAllLaws : GoodIn wsX5_law (wsV RX5 194 RX3 yX3_hasAllLaws wsX3_hasAllLaws) := goodIn_app (goodIn_of _ (by decide +kernel)) ggX5_law_X3_hasAllLaws
set_option maxRecDepth 20000 in
theorem ggX5_law_X3_addLaw : GoodIn wsX5_law wsX3_addLaw := goodIn_r _ [21, 22, 17, 23, 24, 13, 14, 15, 16, 35, 36, 37, 38, 39, 40, 41] (by decide +kernel) (by decide +kernel)
set_option maxRecDepth 20000 in
theorem gX5_law_X3_addLaw : GoodIn wsX5_law (wsV RX5 198 RX3 yX3_addLaw wsX3_addLaw) := goodIn_app (goodIn_of _ (by decide +kernel)) ggX5_law_X3_addLaw
theorem dX5_law_0 : decode cX5_law 0 = .ok (.iconst 1, 1) := by decide +kernel
theorem dX5_law_1 : decode cX5_law 1 = .ok (.iload_n 1, 1) := by decide +kernel
theorem dX5_law_2 : decode cX5_law 2 = .ok (.iconst 0, 1) := by decide +kernel
theorem dX5_law_3 : decode cX5_law 3 = .ok (.ldc 99, 2) := by decide +kernel
theorem dX5_law_5 : decode cX5_law 5 = .ok (.invokestatic 100, 3) := by decide +kernel
theorem dX5_law_8 : decode cX5_law 8 = .ok (.ifCond .eq 17, 3) := by decide +kernel
theorem dX5_law_11 : decode cX5_law 11 = .ok (.iload_n 2, 1) := by decide +kernel
theorem dX5_law_12 : decode cX5_law 12 = .ok (.iconst 0, 1) := by decide +kernel
theorem dX5_law_13 : decode cX5_law 13 = .ok (.ldc 193, 2) := by decide +kernel
theorem dX5_law_15 : decode cX5_law 15 = .ok (.invokestatic 100, 3) := by decide +kernel
theorem dX5_law_18 : decode cX5_law 18 = .ok (.ifCond .eq 7, 3) := by decide +kernel
theorem dX5_law_21 : decode cX5_law 21 = .ok (.iconst 1, 1) := by decide +kernel
theorem dX5_law_22 : decode cX5_law 22 = .ok (.goto 4, 3) := by decide +kernel
theorem dX5_law_25 : decode cX5_law 25 = .ok (.iconst 0, 1) := by decide +kernel
theorem dX5_law_26 : decode cX5_law 26 = .ok (.invokestatic 114, 3) := by decide +kernel
theorem dX5_law_29 : decode cX5_law 29 = .ok (.istore_n 3, 1) := by decide +kernel
theorem dX5_law_30 : decode cX5_law 30 = .ok (.iload_n 3, 1) := by decide +kernel
theorem dX5_law_31 : decode cX5_law 31 = .ok (.ifCond .ne 15, 3) := by decide +kernel
theorem dX5_law_34 : decode cX5_law 34 = .ok (.aload_n 0, 1) := by decide +kernel
theorem dX5_law_35 : decode cX5_law 35 = .ok (.getfield 40, 3) := by decide +kernel
theorem dX5_law_38 : decode cX5_law 38 = .ok (.invokevirtual 194, 3) := by decide +kernel
theorem dX5_law_41 : decode cX5_law 41 = .ok (.ifCond .eq 5, 3) := by decide +kernel
theorem dX5_law_44 : decode cX5_law 44 = .ok (.iconst 3, 1) := by decide +kernel
theorem dX5_law_45 : decode cX5_law 45 = .ok (.istore_n 3, 1) := by decide +kernel
theorem dX5_law_46 : decode cX5_law 46 = .ok (.aload_n 0, 1) := by decide +kernel
theorem dX5_law_47 : decode cX5_law 47 = .ok (.iload_n 3, 1) := by decide +kernel
theorem dX5_law_48 : decode cX5_law 48 = .ok (.putfield 48, 3) := by decide +kernel
theorem dX5_law_51 : decode cX5_law 51 = .ok (.iload_n 3, 1) := by decide +kernel
theorem dX5_law_52 : decode cX5_law 52 = .ok (.ifCond .eq 5, 3) := by decide +kernel
theorem dX5_law_55 : decode cX5_law 55 = .ok (.iconst 0, 1) := by decide +kernel
theorem dX5_law_56 : decode cX5_law 56 = .ok (.ireturn, 1) := by decide +kernel
theorem dX5_law_57 : decode cX5_law 57 = .ok (.aload_n 0, 1) := by decide +kernel
theorem dX5_law_58 : decode cX5_law 58 = .ok (.getfield 40, 3) := by decide +kernel
theorem dX5_law_61 : decode cX5_law 61 = .ok (.iload_n 1, 1) := by decide +kernel
theorem dX5_law_62 : decode cX5_law 62 = .ok (.iload_n 2, 1) := by decide +kernel
theorem dX5_law_63 : decode cX5_law 63 = .ok (.invokevirtual 198, 3) := by decide +kernel
theorem dX5_law_66 : decode cX5_law 66 = .ok (.iconst 1, 1) := by decide +kernel
theorem dX5_law_67 : decode cX5_law 67 = .ok (.ireturn, 1) := by decide +kernel
set_option maxRecDepth 20000 in
theorem ggX5_death_X5_isPlate : GoodIn wsX5_death wsX5_isPlate := goodIn_r _ [8, 9, 33, 34, 35, 36, 37, 38, 39, 40, 41, 42] (by decide +kernel) (by decide +kernel)
set_option maxRecDepth 20000 in
theorem gX5_death_X5_isPlate : GoodIn wsX5_death (wsV RX5 65 RX5 yX5_isPlate wsX5_isPlate) := goodIn_app (goodIn_of _ (by decide +kernel)) ggX5_death_X5_isPlate
set_option maxRecDepth 20000 in
theorem ggX5_death_X5_isWithin : GoodIn wsX5_death wsX5_isWithin := goodIn_r _ [12] (by decide +kernel) (by decide +kernel)
set_option maxRecDepth 20000 in
theorem gX5_death_X5_isWithin : GoodIn wsX5_death (va_wsS RX5 100 yX5_isWithin wsX5_isWithin) := goodIn_app (goodIn_of _ (by decide +kernel)) ggX5_death_X5_isWithin
set_option maxRecDepth 20000 in
theorem ggX5_death_X5_isDay : GoodIn wsX5_death wsX5_isDay := goodIn_r _ [15, 10, 11, 7, 12] (by decide +kernel) (by decide +kernel)
set_option maxRecDepth 20000 in
theorem gX5_death_X5_isDay : GoodIn wsX5_death (va_wsS RX5 72 yX5_isDay wsX5_isDay) := goodIn_app (goodIn_of _ (by decide +kernel)) ggX5_death_X5_isDay
set_option maxRecDepth 20000 in
theorem ggX5_death_X5_whyNot : GoodIn wsX5_death wsX5_whyNot := goodIn_r _ [18] (by decide +kernel) (by decide +kernel)
set_option maxRecDepth 20000 in
theorem gX5_death_X5_whyNot : GoodIn wsX5_death (va_wsS RX5 114 yX5_whyNot wsX5_whyNot) := goodIn_app (goodIn_of _ (by decide +kernel)) ggX5_death_X5_whyNot
set_option maxRecDepth 20000 in
theorem ggX5_death_X3_hasAllDeaths : GoodIn wsX5_death wsX3_hasAllDeaths := goodIn_r _ [23, 24, 43, 44, 45, 46, 47, 48, 49] (by decide +kernel) (by decide +kernel)
set_option maxRecDepth 20000 in
theorem gX5_death_X3_hasAllDeaths : GoodIn wsX5_death (wsV RX5 201 RX3 yX3_hasAllDeaths wsX3_hasAllDeaths) := goodIn_app (goodIn_of _ (by decide +kernel)) ggX5_death_X3_hasAllDeaths
set_option maxRecDepth 20000 in
theorem ggX5_death_X3_addDeath : GoodIn wsX5_death wsX3_addDeath := goodIn_r _ [28, 29, 24, 30, 31, 32, 20, 21, 22, 23, 43, 44, 45, 46, 47, 48, 49] (by decide +kernel) (by decide +kernel)
set_option maxRecDepth 20000 in
theorem gX5_death_X3_addDeath : GoodIn wsX5_death (wsV RX5 204 RX3 yX3_addDeath wsX3_addDeath) := goodIn_app (goodIn_of _ (by decide +kernel)) ggX5_death_X3_addDeath
theorem dX5_death_0 : decode cX5_death 0 = .ok (.aload_n 0, 1) := by decide +kernel
theorem dX5_death_1 : decode cX5_death 1 = .ok (.iload_n 1, 1) := by decide +kernel
theorem dX5_death_2 : decode cX5_death 2 = .ok (.invokevirtual 65, 3) := by decide +kernel
theorem dX5_death_5 : decode cX5_death 5 = .ok (.iload_n 2, 1) := by decide +kernel
theorem dX5_death_6 : decode cX5_death 6 = .ok (.iconst 0, 1) := by decide +kernel
theorem dX5_death_7 : decode cX5_death 7 = .ok (.ldc 99, 2) := by decide +kernel
theorem dX5_death_9 : decode cX5_death 9 = .ok (.invokestatic 100, 3) := by decide +kernel
theorem dX5_death_12 : decode cX5_death 12 = .ok (.ifCond .eq 14, 3) := by decide +kernel
theorem dX5_death_15 : decode cX5_death 15 = .ok (.iload_n 3, 1) := by decide +kernel
theorem dX5_death_16 : decode cX5_death 16 = .ok (.invokestatic 72, 3) := by decide +kernel
theorem dX5_death_19 : decode cX5_death 19 = .ok (.ifCond .eq 7, 3) := by decide +kernel
theorem dX5_death_22 : decode cX5_death 22 = .ok (.iconst 1, 1) := by decide +kernel
theorem dX5_death_23 : decode cX5_death 23 = .ok (.goto 4, 3) := by decide +kernel
theorem dX5_death_26 : decode cX5_death 26 = .ok (.iconst 0, 1) := by decide +kernel
theorem dX5_death_27 : decode cX5_death 27 = .ok (.invokestatic 114, 3) := by decide +kernel
theorem dX5_death_30 : decode cX5_death 30 = .ok (.istore 4, 2) := by decide +kernel
theorem dX5_death_32 : decode cX5_death 32 = .ok (.iload 4, 2) := by decide +kernel
theorem dX5_death_34 : decode cX5_death 34 = .ok (.ifCond .ne 16, 3) := by decide +kernel
theorem dX5_death_37 : decode cX5_death 37 = .ok (.aload_n 0, 1) := by decide +kernel
theorem dX5_death_38 : decode cX5_death 38 = .ok (.getfield 40, 3) := by decide +kernel
theorem dX5_death_41 : decode cX5_death 41 = .ok (.invokevirtual 201, 3) := by decide +kernel
theorem dX5_death_44 : decode cX5_death 44 = .ok (.ifCond .eq 6, 3) := by decide +kernel
theorem dX5_death_47 : decode cX5_death 47 = .ok (.iconst 3, 1) := by decide +kernel
theorem dX5_death_48 : decode cX5_death 48 = .ok (.istore 4, 2) := by decide +kernel
theorem dX5_death_50 : decode cX5_death 50 = .ok (.aload_n 0, 1) := by decide +kernel
theorem dX5_death_51 : decode cX5_death 51 = .ok (.iload 4, 2) := by decide +kernel
theorem dX5_death_53 : decode cX5_death 53 = .ok (.putfield 48, 3) := by decide +kernel
theorem dX5_death_56 : decode cX5_death 56 = .ok (.iload 4, 2) := by decide +kernel
theorem dX5_death_58 : decode cX5_death 58 = .ok (.ifCond .eq 5, 3) := by decide +kernel
theorem dX5_death_61 : decode cX5_death 61 = .ok (.iconst 0, 1) := by decide +kernel
theorem dX5_death_62 : decode cX5_death 62 = .ok (.ireturn, 1) := by decide +kernel
theorem dX5_death_63 : decode cX5_death 63 = .ok (.aload_n 0, 1) := by decide +kernel
theorem dX5_death_64 : decode cX5_death 64 = .ok (.getfield 40, 3) := by decide +kernel
theorem dX5_death_67 : decode cX5_death 67 = .ok (.iload_n 1, 1) := by decide +kernel
theorem dX5_death_68 : decode cX5_death 68 = .ok (.iload_n 2, 1) := by decide +kernel
theorem dX5_death_69 : decode cX5_death 69 = .ok (.iload_n 3, 1) := by decide +kernel
theorem dX5_death_70 : decode cX5_death 70 = .ok (.invokevirtual 204, 3) := by decide +kernel
theorem dX5_death_73 : decode cX5_death 73 = .ok (.iconst 1, 1) := by decide +kernel
theorem dX5_death_74 : decode cX5_death 74 = .ok (.ireturn, 1) := by decide +kernel
set_option maxRecDepth 20000 in
theorem ggX5_free_X5_isPlate : GoodIn wsX5_free wsX5_isPlate := goodIn_r _ [7, 8, 47, 48, 49, 50, 51, 52, 53, 54, 55, 56] (by decide +kernel) (by decide +kernel)
set_option maxRecDepth 20000 in
theorem gX5_free_X5_isPlate : GoodIn wsX5_free (wsV RX5 65 RX5 yX5_isPlate wsX5_isPlate) := goodIn_app (goodIn_of _ (by decide +kernel)) ggX5_free_X5_isPlate
set_option maxRecDepth 20000 in
theorem ggX5_free_X5_isWithin : GoodIn wsX5_free wsX5_isWithin := goodIn_r _ [11] (by decide +kernel) (by decide +kernel)
set_option maxRecDepth 20000 in
theorem gX5_free_X5_isWithin : GoodIn wsX5_free (va_wsS RX5 100 yX5_isWithin wsX5_isWithin) := goodIn_app (goodIn_of _ (by decide +kernel)) ggX5_free_X5_isWithin
set_option maxRecDepth 20000 in
theorem ggX5_free_X5_isDay : GoodIn wsX5_free wsX5_isDay := goodIn_r _ [14, 9, 10, 6, 11] (by decide +kernel) (by decide +kernel)
set_option maxRecDepth 20000 in
theorem gX5_free_X5_isDay : GoodIn wsX5_free (va_wsS RX5 72 yX5_isDay wsX5_isDay) := goodIn_app (goodIn_of _ (by decide +kernel)) ggX5_free_X5_isDay
set_option maxRecDepth 20000 in
theorem ggX5_free_X5_whyNot : GoodIn wsX5_free wsX5_whyNot := goodIn_r _ [17] (by decide +kernel) (by decide +kernel)
set_option maxRecDepth 20000 in
theorem gX5_free_X5_whyNot : GoodIn wsX5_free (va_wsS RX5 114 yX5_whyNot wsX5_whyNot) := goodIn_app (goodIn_of _ (by decide +kernel)) ggX5_free_X5_whyNot
set_option maxRecDepth 20000 in
theorem ggX5_free_X5_refuse : GoodIn wsX5_free wsX5_refuse := goodIn_r _ [21, 22, 47, 48, 49, 50, 51, 52, 53, 54, 55, 56] (by decide +kernel) (by decide +kernel)
set_option maxRecDepth 20000 in
theorem gX5_free_X5_refuse : GoodIn wsX5_free (wsV RX5 55 RX5 yX5_refuse wsX5_refuse) := goodIn_app (goodIn_of _ (by decide +kernel)) ggX5_free_X5_refuse
set_option maxRecDepth 20000 in
theorem ggX5_free_X3_isFreeOn : GoodIn wsX5_free wsX3_isFreeOn := goodIn_r _ [27, 28, 29, 30, 31, 32, 26, 33, 34, 35, 36, 37, 38, 39, 40, 41, 42, 57, 58, 59, 60, 61, 62, 63] (by decide +kernel) (by decide +kernel)
set_option maxRecDepth 20000 in
theorem gX5_free_X3_isFreeOn : GoodIn wsX5_free (wsV RX5 208 RX3 yX3_isFreeOn wsX3_isFreeOn) := goodIn_app (goodIn_of _ (by decide +kernel)) ggX5_free_X3_isFreeOn
set_option maxRecDepth 20000 in
theorem ggX5_free_X5_answer : GoodIn wsX5_free wsX5_answer := goodIn_r _ [46, 22, 47, 48, 49, 50, 51, 52, 53, 54, 55, 56] (by decide +kernel) (by decide +kernel)
set_option maxRecDepth 20000 in
theorem gX5_free_X5_answer : GoodIn wsX5_free (wsV RX5 59 RX5 yX5_answer wsX5_answer) := goodIn_app (goodIn_of _ (by decide +kernel)) ggX5_free_X5_answer
theorem dX5_free_0 : decode cX5_free 0 = .ok (.aload_n 0, 1) := by decide +kernel
theorem dX5_free_1 : decode cX5_free 1 = .ok (.iload_n 1, 1) := by decide +kernel
theorem dX5_free_2 : decode cX5_free 2 = .ok (.invokevirtual 65, 3) := by decide +kernel
theorem dX5_free_5 : decode cX5_free 5 = .ok (.iload_n 2, 1) := by decide +kernel
theorem dX5_free_6 : decode cX5_free 6 = .ok (.iconst 0, 1) := by decide +kernel
theorem dX5_free_7 : decode cX5_free 7 = .ok (.ldc 207, 2) := by decide +kernel
theorem dX5_free_9 : decode cX5_free 9 = .ok (.invokestatic 100, 3) := by decide +kernel
theorem dX5_free_12 : decode cX5_free 12 = .ok (.ifCond .eq 14, 3) := by decide +kernel
theorem dX5_free_15 : decode cX5_free 15 = .ok (.iload_n 3, 1) := by decide +kernel
theorem dX5_free_16 : decode cX5_free 16 = .ok (.invokestatic 72, 3) := by decide +kernel
theorem dX5_free_19 : decode cX5_free 19 = .ok (.ifCond .eq 7, 3) := by decide +kernel
theorem dX5_free_22 : decode cX5_free 22 = .ok (.iconst 1, 1) := by decide +kernel
theorem dX5_free_23 : decode cX5_free 23 = .ok (.goto 4, 3) := by decide +kernel
theorem dX5_free_26 : decode cX5_free 26 = .ok (.iconst 0, 1) := by decide +kernel
theorem dX5_free_27 : decode cX5_free 27 = .ok (.invokestatic 114, 3) := by decide +kernel
theorem dX5_free_30 : decode cX5_free 30 = .ok (.istore 4, 2) := by decide +kernel
theorem dX5_free_32 : decode cX5_free 32 = .ok (.iload 4, 2) := by decide +kernel
theorem dX5_free_34 : decode cX5_free 34 = .ok (.ifCond .eq 10, 3) := by decide +kernel
theorem dX5_free_37 : decode cX5_free 37 = .ok (.aload_n 0, 1) := by decide +kernel
theorem dX5_free_38 : decode cX5_free 38 = .ok (.iload 4, 2) := by decide +kernel
theorem dX5_free_40 : decode cX5_free 40 = .ok (.invokevirtual 55, 3) := by decide +kernel
theorem dX5_free_43 : decode cX5_free 43 = .ok (.ireturn, 1) := by decide +kernel
theorem dX5_free_44 : decode cX5_free 44 = .ok (.aload_n 0, 1) := by decide +kernel
theorem dX5_free_45 : decode cX5_free 45 = .ok (.aload_n 0, 1) := by decide +kernel
theorem dX5_free_46 : decode cX5_free 46 = .ok (.getfield 40, 3) := by decide +kernel
theorem dX5_free_49 : decode cX5_free 49 = .ok (.iload_n 1, 1) := by decide +kernel
theorem dX5_free_50 : decode cX5_free 50 = .ok (.iload_n 2, 1) := by decide +kernel
theorem dX5_free_51 : decode cX5_free 51 = .ok (.iload_n 3, 1) := by decide +kernel
theorem dX5_free_52 : decode cX5_free 52 = .ok (.invokevirtual 208, 3) := by decide +kernel
theorem dX5_free_55 : decode cX5_free 55 = .ok (.ifCond .eq 7, 3) := by decide +kernel
theorem dX5_free_58 : decode cX5_free 58 = .ok (.iconst 1, 1) := by decide +kernel
theorem dX5_free_59 : decode cX5_free 59 = .ok (.goto 4, 3) := by decide +kernel
theorem dX5_free_62 : decode cX5_free 62 = .ok (.iconst 0, 1) := by decide +kernel
theorem dX5_free_63 : decode cX5_free 63 = .ok (.invokevirtual 59, 3) := by decide +kernel
theorem dX5_free_66 : decode cX5_free 66 = .ok (.ireturn, 1) := by decide +kernel
theorem dX5_refuse_0 : decode cX5_refuse 0 = .ok (.aload_n 0, 1) := by decide +kernel
theorem dX5_refuse_1 : decode cX5_refuse 1 = .ok (.iload_n 1, 1) := by decide +kernel
theorem dX5_refuse_2 : decode cX5_refuse 2 = .ok (.putfield 48, 3) := by decide +kernel
theorem dX5_refuse_5 : decode cX5_refuse 5 = .ok (.iconst (-1), 1) := by decide +kernel
theorem dX5_refuse_6 : decode cX5_refuse 6 = .ok (.ireturn, 1) := by decide +kernel
theorem dX5_answer_0 : decode cX5_answer 0 = .ok (.aload_n 0, 1) := by decide +kernel
theorem dX5_answer_1 : decode cX5_answer 1 = .ok (.iconst 0, 1) := by decide +kernel
theorem dX5_answer_2 : decode cX5_answer 2 = .ok (.putfield 48, 3) := by decide +kernel
theorem dX5_answer_5 : decode cX5_answer 5 = .ok (.iload_n 1, 1) := by decide +kernel
theorem dX5_answer_6 : decode cX5_answer 6 = .ok (.ireturn, 1) := by decide +kernel
theorem dX5_whyNot_0 : decode cX5_whyNot 0 = .ok (.iload_n 0, 1) := by decide +kernel
theorem dX5_whyNot_1 : decode cX5_whyNot 1 = .ok (.ifCond .ne 5, 3) := by decide +kernel
theorem dX5_whyNot_4 : decode cX5_whyNot 4 = .ok (.iconst 1, 1) := by decide +kernel
theorem dX5_whyNot_5 : decode cX5_whyNot 5 = .ok (.ireturn, 1) := by decide +kernel
theorem dX5_whyNot_6 : decode cX5_whyNot 6 = .ok (.iload_n 1, 1) := by decide +kernel
theorem dX5_whyNot_7 : decode cX5_whyNot 7 = .ok (.ifCond .eq 7, 3) := by decide +kernel
theorem dX5_whyNot_10 : decode cX5_whyNot 10 = .ok (.iconst 0, 1) := by decide +kernel
theorem dX5_whyNot_11 : decode cX5_whyNot 11 = .ok (.goto 4, 3) := by decide +kernel
theorem dX5_whyNot_14 : decode cX5_whyNot 14 = .ok (.iconst 2, 1) := by decide +kernel
theorem dX5_whyNot_15 : decode cX5_whyNot 15 = .ok (.ireturn, 1) := by decide +kernel
set_option maxRecDepth 20000 in
theorem ggX5_whyNoFact_X5_whyNot : GoodIn wsX5_whyNoFact wsX5_whyNot := goodIn_r _ [5] (by decide +kernel) (by decide +kernel)
set_option maxRecDepth 20000 in
theorem gX5_whyNoFact_X5_whyNot : GoodIn wsX5_whyNoFact (va_wsS RX5 114 yX5_whyNot wsX5_whyNot) := goodIn_app (goodIn_of _ (by decide +kernel)) ggX5_whyNoFact_X5_whyNot
set_option maxRecDepth 20000 in
theorem ggX5_whyNoFact_X2_isFull : GoodIn wsX5_whyNoFact wsX2_isFull := goodIn_r _ [10, 11, 22, 23, 24, 25, 26, 27, 28, 29] (by decide +kernel) (by decide +kernel)
set_option maxRecDepth 20000 in
theorem gX5_whyNoFact_X2_isFull : GoodIn wsX5_whyNoFact (wsV RX5 211 RX2 yX2_isFull wsX2_isFull) := goodIn_app (goodIn_of _ (by decide +kernel)) ggX5_whyNoFact_X2_isFull
theorem dX5_whyNoFact_0 : decode cX5_whyNoFact 0 = .ok (.iload_n 1, 1) := by decide +kernel
theorem dX5_whyNoFact_1 : decode cX5_whyNoFact 1 = .ok (.iload_n 2, 1) := by decide +kernel
theorem dX5_whyNoFact_2 : decode cX5_whyNoFact 2 = .ok (.invokestatic 114, 3) := by decide +kernel
theorem dX5_whyNoFact_5 : decode cX5_whyNoFact 5 = .ok (.istore_n 3, 1) := by decide +kernel
theorem dX5_whyNoFact_6 : decode cX5_whyNoFact 6 = .ok (.iload_n 3, 1) := by decide +kernel
theorem dX5_whyNoFact_7 : decode cX5_whyNoFact 7 = .ok (.ifCond .ne 17, 3) := by decide +kernel
theorem dX5_whyNoFact_10 : decode cX5_whyNoFact 10 = .ok (.aload_n 0, 1) := by decide +kernel
theorem dX5_whyNoFact_11 : decode cX5_whyNoFact 11 = .ok (.getfield 12, 3) := by decide +kernel
theorem dX5_whyNoFact_14 : decode cX5_whyNoFact 14 = .ok (.invokevirtual 211, 3) := by decide +kernel
theorem dX5_whyNoFact_17 : decode cX5_whyNoFact 17 = .ok (.ifCond .eq 7, 3) := by decide +kernel
theorem dX5_whyNoFact_20 : decode cX5_whyNoFact 20 = .ok (.iconst 3, 1) := by decide +kernel
theorem dX5_whyNoFact_21 : decode cX5_whyNoFact 21 = .ok (.goto 4, 3) := by decide +kernel
theorem dX5_whyNoFact_24 : decode cX5_whyNoFact 24 = .ok (.iload_n 3, 1) := by decide +kernel
theorem dX5_whyNoFact_25 : decode cX5_whyNoFact 25 = .ok (.ireturn, 1) := by decide +kernel
set_option maxRecDepth 20000 in
theorem ggX5_whyNoRow_X5_isSet : GoodIn wsX5_whyNoRow wsX5_isSet := goodIn_r _ [6, 7, 42, 43, 44, 45, 46, 47, 48, 49, 50, 51] (by decide +kernel) (by decide +kernel)
set_option maxRecDepth 20000 in
theorem gX5_whyNoRow_X5_isSet : GoodIn wsX5_whyNoRow (wsV RX5 170 RX5 yX5_isSet wsX5_isSet) := goodIn_app (goodIn_of _ (by decide +kernel)) ggX5_whyNoRow_X5_isSet
set_option maxRecDepth 20000 in
theorem ggX5_whyNoRow_X1_fewestRows : GoodIn wsX5_whyNoRow wsX1_fewestRows := goodIn_r _ [12, 13, 14, 15, 16, 17, 18, 19, 11, 20, 21, 22, 23, 24, 25, 26, 27, 28, 29, 30, 31, 32, 33, 34, 35, 36, 37, 38, 39, 40, 41, 52, 53, 54, 55, 56] (by decide +kernel) (by decide +kernel)
set_option maxRecDepth 20000 in
theorem gX5_whyNoRow_X1_fewestRows : GoodIn wsX5_whyNoRow (wsV RX5 173 RX1 yX1_fewestRows wsX1_fewestRows) := goodIn_app (goodIn_of _ (by decide +kernel)) ggX5_whyNoRow_X1_fewestRows
theorem dX5_whyNoRow_0 : decode cX5_whyNoRow 0 = .ok (.iload_n 1, 1) := by decide +kernel
theorem dX5_whyNoRow_1 : decode cX5_whyNoRow 1 = .ok (.ifCond .eq 11, 3) := by decide +kernel
theorem dX5_whyNoRow_4 : decode cX5_whyNoRow 4 = .ok (.aload_n 0, 1) := by decide +kernel
theorem dX5_whyNoRow_5 : decode cX5_whyNoRow 5 = .ok (.iload_n 1, 1) := by decide +kernel
theorem dX5_whyNoRow_6 : decode cX5_whyNoRow 6 = .ok (.invokevirtual 170, 3) := by decide +kernel
theorem dX5_whyNoRow_9 : decode cX5_whyNoRow 9 = .ok (.ifCond .ne 5, 3) := by decide +kernel
theorem dX5_whyNoRow_12 : decode cX5_whyNoRow 12 = .ok (.iconst 2, 1) := by decide +kernel
theorem dX5_whyNoRow_13 : decode cX5_whyNoRow 13 = .ok (.ireturn, 1) := by decide +kernel
theorem dX5_whyNoRow_14 : decode cX5_whyNoRow 14 = .ok (.aload_n 0, 1) := by decide +kernel
theorem dX5_whyNoRow_15 : decode cX5_whyNoRow 15 = .ok (.getfield 26, 3) := by decide +kernel
theorem dX5_whyNoRow_18 : decode cX5_whyNoRow 18 = .ok (.iload_n 1, 1) := by decide +kernel
theorem dX5_whyNoRow_19 : decode cX5_whyNoRow 19 = .ok (.invokevirtual 173, 3) := by decide +kernel
theorem dX5_whyNoRow_22 : decode cX5_whyNoRow 22 = .ok (.iconst 1, 1) := by decide +kernel
theorem dX5_whyNoRow_23 : decode cX5_whyNoRow 23 = .ok (.if_icmp .ne 7, 3) := by decide +kernel
theorem dX5_whyNoRow_26 : decode cX5_whyNoRow 26 = .ok (.iconst 0, 1) := by decide +kernel
theorem dX5_whyNoRow_27 : decode cX5_whyNoRow 27 = .ok (.goto 5, 3) := by decide +kernel
theorem dX5_whyNoRow_30 : decode cX5_whyNoRow 30 = .ok (.bipush 7, 2) := by decide +kernel
theorem dX5_whyNoRow_32 : decode cX5_whyNoRow 32 = .ok (.ireturn, 1) := by decide +kernel
theorem dX5_isWithin_0 : decode cX5_isWithin 0 = .ok (.iload_n 0, 1) := by decide +kernel
theorem dX5_isWithin_1 : decode cX5_isWithin 1 = .ok (.iload_n 1, 1) := by decide +kernel
theorem dX5_isWithin_2 : decode cX5_isWithin 2 = .ok (.if_icmp .lt 12, 3) := by decide +kernel
theorem dX5_isWithin_5 : decode cX5_isWithin 5 = .ok (.iload_n 0, 1) := by decide +kernel
theorem dX5_isWithin_6 : decode cX5_isWithin 6 = .ok (.iload_n 2, 1) := by decide +kernel
theorem dX5_isWithin_7 : decode cX5_isWithin 7 = .ok (.if_icmp .gt 7, 3) := by decide +kernel
theorem dX5_isWithin_10 : decode cX5_isWithin 10 = .ok (.iconst 1, 1) := by decide +kernel
theorem dX5_isWithin_11 : decode cX5_isWithin 11 = .ok (.goto 4, 3) := by decide +kernel
theorem dX5_isWithin_14 : decode cX5_isWithin 14 = .ok (.iconst 0, 1) := by decide +kernel
theorem dX5_isWithin_15 : decode cX5_isWithin 15 = .ok (.ireturn, 1) := by decide +kernel
set_option maxRecDepth 20000 in
theorem ggX5_isDay_X5_isWithin : GoodIn wsX5_isDay wsX5_isWithin := goodIn_r _ [4] (by decide +kernel) (by decide +kernel)
set_option maxRecDepth 20000 in
theorem gX5_isDay_X5_isWithin : GoodIn wsX5_isDay (va_wsS RX5 100 yX5_isWithin wsX5_isWithin) := goodIn_app (goodIn_of _ (by decide +kernel)) ggX5_isDay_X5_isWithin
theorem dX5_isDay_0 : decode cX5_isDay 0 = .ok (.iload_n 0, 1) := by decide +kernel
theorem dX5_isDay_1 : decode cX5_isDay 1 = .ok (.iconst 0, 1) := by decide +kernel
theorem dX5_isDay_2 : decode cX5_isDay 2 = .ok (.sipush 9999, 3) := by decide +kernel
theorem dX5_isDay_5 : decode cX5_isDay 5 = .ok (.invokestatic 100, 3) := by decide +kernel
theorem dX5_isDay_8 : decode cX5_isDay 8 = .ok (.ireturn, 1) := by decide +kernel
theorem dX5_isTimeRange_0 : decode cX5_isTimeRange 0 = .ok (.iload_n 0, 1) := by decide +kernel
theorem dX5_isTimeRange_1 : decode cX5_isTimeRange 1 = .ok (.ifCond .lt 18, 3) := by decide +kernel
theorem dX5_isTimeRange_4 : decode cX5_isTimeRange 4 = .ok (.iload_n 0, 1) := by decide +kernel
theorem dX5_isTimeRange_5 : decode cX5_isTimeRange 5 = .ok (.iload_n 1, 1) := by decide +kernel
theorem dX5_isTimeRange_6 : decode cX5_isTimeRange 6 = .ok (.if_icmp .gt 13, 3) := by decide +kernel
theorem dX5_isTimeRange_9 : decode cX5_isTimeRange 9 = .ok (.iload_n 1, 1) := by decide +kernel
theorem dX5_isTimeRange_10 : decode cX5_isTimeRange 10 = .ok (.ldc 99, 2) := by decide +kernel
theorem dX5_isTimeRange_12 : decode cX5_isTimeRange 12 = .ok (.if_icmp .gt 7, 3) := by decide +kernel
theorem dX5_isTimeRange_15 : decode cX5_isTimeRange 15 = .ok (.iconst 1, 1) := by decide +kernel
theorem dX5_isTimeRange_16 : decode cX5_isTimeRange 16 = .ok (.goto 4, 3) := by decide +kernel
theorem dX5_isTimeRange_19 : decode cX5_isTimeRange 19 = .ok (.iconst 0, 1) := by decide +kernel
theorem dX5_isTimeRange_20 : decode cX5_isTimeRange 20 = .ok (.ireturn, 1) := by decide +kernel
theorem dX5_isPlate_0 : decode cX5_isPlate 0 = .ok (.iload_n 1, 1) := by decide +kernel
theorem dX5_isPlate_1 : decode cX5_isPlate 1 = .ok (.ifCond .lt 15, 3) := by decide +kernel
theorem dX5_isPlate_4 : decode cX5_isPlate 4 = .ok (.iload_n 1, 1) := by decide +kernel
theorem dX5_isPlate_5 : decode cX5_isPlate 5 = .ok (.aload_n 0, 1) := by decide +kernel
theorem dX5_isPlate_6 : decode cX5_isPlate 6 = .ok (.getfield 52, 3) := by decide +kernel
theorem dX5_isPlate_9 : decode cX5_isPlate 9 = .ok (.if_icmp .ge 7, 3) := by decide +kernel
theorem dX5_isPlate_12 : decode cX5_isPlate 12 = .ok (.iconst 1, 1) := by decide +kernel
theorem dX5_isPlate_13 : decode cX5_isPlate 13 = .ok (.goto 4, 3) := by decide +kernel
theorem dX5_isPlate_16 : decode cX5_isPlate 16 = .ok (.iconst 0, 1) := by decide +kernel
theorem dX5_isPlate_17 : decode cX5_isPlate 17 = .ok (.ireturn, 1) := by decide +kernel
theorem dX5_isMotif_0 : decode cX5_isMotif 0 = .ok (.iload_n 1, 1) := by decide +kernel
theorem dX5_isMotif_1 : decode cX5_isMotif 1 = .ok (.ifCond .lt 15, 3) := by decide +kernel
theorem dX5_isMotif_4 : decode cX5_isMotif 4 = .ok (.iload_n 1, 1) := by decide +kernel
theorem dX5_isMotif_5 : decode cX5_isMotif 5 = .ok (.aload_n 0, 1) := by decide +kernel
theorem dX5_isMotif_6 : decode cX5_isMotif 6 = .ok (.getfield 62, 3) := by decide +kernel
theorem dX5_isMotif_9 : decode cX5_isMotif 9 = .ok (.if_icmp .ge 7, 3) := by decide +kernel
theorem dX5_isMotif_12 : decode cX5_isMotif 12 = .ok (.iconst 1, 1) := by decide +kernel
theorem dX5_isMotif_13 : decode cX5_isMotif 13 = .ok (.goto 4, 3) := by decide +kernel
theorem dX5_isMotif_16 : decode cX5_isMotif 16 = .ok (.iconst 0, 1) := by decide +kernel
theorem dX5_isMotif_17 : decode cX5_isMotif 17 = .ok (.ireturn, 1) := by decide +kernel
set_option maxRecDepth 20000 in
theorem ggX5_areTwoPlates_X5_isPlate : GoodIn wsX5_areTwoPlates wsX5_isPlate := goodIn_r _ [5, 6, 7, 8, 9, 10, 11, 12, 13, 14, 15, 16] (by decide +kernel) (by decide +kernel)
set_option maxRecDepth 20000 in
theorem gX5_areTwoPlates_X5_isPlate : GoodIn wsX5_areTwoPlates (wsV RX5 65 RX5 yX5_isPlate wsX5_isPlate) := goodIn_app (goodIn_of _ (by decide +kernel)) ggX5_areTwoPlates_X5_isPlate
theorem dX5_areTwoPlates_0 : decode cX5_areTwoPlates 0 = .ok (.aload_n 0, 1) := by decide +kernel
theorem dX5_areTwoPlates_1 : decode cX5_areTwoPlates 1 = .ok (.iload_n 1, 1) := by decide +kernel
theorem dX5_areTwoPlates_2 : decode cX5_areTwoPlates 2 = .ok (.invokevirtual 65, 3) := by decide +kernel
theorem dX5_areTwoPlates_5 : decode cX5_areTwoPlates 5 = .ok (.ifCond .eq 20, 3) := by decide +kernel
theorem dX5_areTwoPlates_8 : decode cX5_areTwoPlates 8 = .ok (.aload_n 0, 1) := by decide +kernel
theorem dX5_areTwoPlates_9 : decode cX5_areTwoPlates 9 = .ok (.iload_n 2, 1) := by decide +kernel
theorem dX5_areTwoPlates_10 : decode cX5_areTwoPlates 10 = .ok (.invokevirtual 65, 3) := by decide +kernel
theorem dX5_areTwoPlates_13 : decode cX5_areTwoPlates 13 = .ok (.ifCond .eq 12, 3) := by decide +kernel
theorem dX5_areTwoPlates_16 : decode cX5_areTwoPlates 16 = .ok (.iload_n 1, 1) := by decide +kernel
theorem dX5_areTwoPlates_17 : decode cX5_areTwoPlates 17 = .ok (.iload_n 2, 1) := by decide +kernel
theorem dX5_areTwoPlates_18 : decode cX5_areTwoPlates 18 = .ok (.if_icmp .eq 7, 3) := by decide +kernel
theorem dX5_areTwoPlates_21 : decode cX5_areTwoPlates 21 = .ok (.iconst 1, 1) := by decide +kernel
theorem dX5_areTwoPlates_22 : decode cX5_areTwoPlates 22 = .ok (.goto 4, 3) := by decide +kernel
theorem dX5_areTwoPlates_25 : decode cX5_areTwoPlates 25 = .ok (.iconst 0, 1) := by decide +kernel
theorem dX5_areTwoPlates_26 : decode cX5_areTwoPlates 26 = .ok (.ireturn, 1) := by decide +kernel
theorem dX5_isSet_0 : decode cX5_isSet 0 = .ok (.iconst 1, 1) := by decide +kernel
theorem dX5_isSet_1 : decode cX5_isSet 1 = .ok (.aload_n 0, 1) := by decide +kernel
theorem dX5_isSet_2 : decode cX5_isSet 2 = .ok (.getfield 52, 3) := by decide +kernel
theorem dX5_isSet_5 : decode cX5_isSet 5 = .ok (.ishl, 1) := by decide +kernel
theorem dX5_isSet_6 : decode cX5_isSet 6 = .ok (.iconst 1, 1) := by decide +kernel
theorem dX5_isSet_7 : decode cX5_isSet 7 = .ok (.isub, 1) := by decide +kernel
theorem dX5_isSet_8 : decode cX5_isSet 8 = .ok (.istore_n 2, 1) := by decide +kernel
theorem dX5_isSet_9 : decode cX5_isSet 9 = .ok (.iload_n 1, 1) := by decide +kernel
theorem dX5_isSet_10 : decode cX5_isSet 10 = .ok (.iload_n 2, 1) := by decide +kernel
theorem dX5_isSet_11 : decode cX5_isSet 11 = .ok (.iconst (-1), 1) := by decide +kernel
theorem dX5_isSet_12 : decode cX5_isSet 12 = .ok (.ixor, 1) := by decide +kernel
theorem dX5_isSet_13 : decode cX5_isSet 13 = .ok (.iand, 1) := by decide +kernel
theorem dX5_isSet_14 : decode cX5_isSet 14 = .ok (.ifCond .ne 7, 3) := by decide +kernel
theorem dX5_isSet_17 : decode cX5_isSet 17 = .ok (.iconst 1, 1) := by decide +kernel
theorem dX5_isSet_18 : decode cX5_isSet 18 = .ok (.goto 4, 3) := by decide +kernel
theorem dX5_isSet_21 : decode cX5_isSet 21 = .ok (.iconst 0, 1) := by decide +kernel
theorem dX5_isSet_22 : decode cX5_isSet 22 = .ok (.ireturn, 1) := by decide +kernel
theorem dX5_platePoint_0 : decode cX5_platePoint 0 = .ok (.iconst 1, 1) := by decide +kernel
theorem dX5_platePoint_1 : decode cX5_platePoint 1 = .ok (.iload_n 0, 1) := by decide +kernel
theorem dX5_platePoint_2 : decode cX5_platePoint 2 = .ok (.iadd, 1) := by decide +kernel
theorem dX5_platePoint_3 : decode cX5_platePoint 3 = .ok (.ireturn, 1) := by decide +kernel
theorem dX5_motifPoint_0 : decode cX5_motifPoint 0 = .ok (.bipush 21, 2) := by decide +kernel
theorem dX5_motifPoint_2 : decode cX5_motifPoint 2 = .ok (.iconst 2, 1) := by decide +kernel
theorem dX5_motifPoint_3 : decode cX5_motifPoint 3 = .ok (.iload_n 0, 1) := by decide +kernel
theorem dX5_motifPoint_4 : decode cX5_motifPoint 4 = .ok (.imul, 1) := by decide +kernel
theorem dX5_motifPoint_5 : decode cX5_motifPoint 5 = .ok (.iadd, 1) := by decide +kernel
theorem dX5_motifPoint_6 : decode cX5_motifPoint 6 = .ok (.iload_n 1, 1) := by decide +kernel
theorem dX5_motifPoint_7 : decode cX5_motifPoint 7 = .ok (.ifCond .eq 7, 3) := by decide +kernel
theorem dX5_motifPoint_10 : decode cX5_motifPoint 10 = .ok (.iconst 1, 1) := by decide +kernel
theorem dX5_motifPoint_11 : decode cX5_motifPoint 11 = .ok (.goto 4, 3) := by decide +kernel
theorem dX5_motifPoint_14 : decode cX5_motifPoint 14 = .ok (.iconst 0, 1) := by decide +kernel
theorem dX5_motifPoint_15 : decode cX5_motifPoint 15 = .ok (.iadd, 1) := by decide +kernel
theorem dX5_motifPoint_16 : decode cX5_motifPoint 16 = .ok (.ireturn, 1) := by decide +kernel
set_option maxRecDepth 20000 in
theorem ggX5_tellRange_X2_tell : GoodIn wsX5_tellRange wsX2_tell := goodIn_r _ [6, 7, 8, 9, 10, 11, 12, 13, 5, 14, 39, 40, 41, 42, 43, 44, 45, 46] (by decide +kernel) (by decide +kernel)
set_option maxRecDepth 20000 in
theorem gX5_tellRange_X2_tell : GoodIn wsX5_tellRange (wsV RX5 79 RX2 yX2_tell wsX2_tell) := goodIn_app (goodIn_of _ (by decide +kernel)) ggX5_tellRange_X2_tell
set_option maxRecDepth 20000 in
theorem ggX5_tellRange_X2_addLimit : GoodIn wsX5_tellRange wsX2_addLimit := goodIn_r _ [18, 8, 19, 20, 21, 22, 39, 40, 41, 42, 43, 44, 45, 46] (by decide +kernel) (by decide +kernel)
set_option maxRecDepth 20000 in
theorem gX5_tellRange_X2_addLimit : GoodIn wsX5_tellRange (wsV RX5 90 RX2 yX2_addLimit wsX2_addLimit) := goodIn_app (goodIn_of _ (by decide +kernel)) ggX5_tellRange_X2_addLimit
set_option maxRecDepth 20000 in
theorem ggX5_tellRange_X5_answer : GoodIn wsX5_tellRange wsX5_answer := goodIn_r _ [27, 28, 29, 30, 31, 32, 33, 34, 35, 36, 37, 38] (by decide +kernel) (by decide +kernel)
set_option maxRecDepth 20000 in
theorem gX5_tellRange_X5_answer : GoodIn wsX5_tellRange (wsV RX5 59 RX5 yX5_answer wsX5_answer) := goodIn_app (goodIn_of _ (by decide +kernel)) ggX5_tellRange_X5_answer
theorem dX5_tellRange_0 : decode cX5_tellRange 0 = .ok (.aload_n 0, 1) := by decide +kernel
theorem dX5_tellRange_1 : decode cX5_tellRange 1 = .ok (.getfield 12, 3) := by decide +kernel
theorem dX5_tellRange_4 : decode cX5_tellRange 4 = .ok (.iload_n 1, 1) := by decide +kernel
theorem dX5_tellRange_5 : decode cX5_tellRange 5 = .ok (.iload 5, 2) := by decide +kernel
theorem dX5_tellRange_7 : decode cX5_tellRange 7 = .ok (.invokevirtual 79, 3) := by decide +kernel
theorem dX5_tellRange_10 : decode cX5_tellRange 10 = .ok (.istore 6, 2) := by decide +kernel
theorem dX5_tellRange_12 : decode cX5_tellRange 12 = .ok (.aload_n 0, 1) := by decide +kernel
theorem dX5_tellRange_13 : decode cX5_tellRange 13 = .ok (.getfield 12, 3) := by decide +kernel
theorem dX5_tellRange_16 : decode cX5_tellRange 16 = .ok (.iload_n 2, 1) := by decide +kernel
theorem dX5_tellRange_17 : decode cX5_tellRange 17 = .ok (.iconst 0, 1) := by decide +kernel
theorem dX5_tellRange_18 : decode cX5_tellRange 18 = .ok (.iload_n 3, 1) := by decide +kernel
theorem dX5_tellRange_19 : decode cX5_tellRange 19 = .ok (.ineg, 1) := by decide +kernel
theorem dX5_tellRange_20 : decode cX5_tellRange 20 = .ok (.invokevirtual 90, 3) := by decide +kernel
theorem dX5_tellRange_23 : decode cX5_tellRange 23 = .ok (.aload_n 0, 1) := by decide +kernel
theorem dX5_tellRange_24 : decode cX5_tellRange 24 = .ok (.getfield 12, 3) := by decide +kernel
theorem dX5_tellRange_27 : decode cX5_tellRange 27 = .ok (.iconst 0, 1) := by decide +kernel
theorem dX5_tellRange_28 : decode cX5_tellRange 28 = .ok (.iload_n 2, 1) := by decide +kernel
theorem dX5_tellRange_29 : decode cX5_tellRange 29 = .ok (.iload 4, 2) := by decide +kernel
theorem dX5_tellRange_31 : decode cX5_tellRange 31 = .ok (.invokevirtual 90, 3) := by decide +kernel
theorem dX5_tellRange_34 : decode cX5_tellRange 34 = .ok (.aload_n 0, 1) := by decide +kernel
theorem dX5_tellRange_35 : decode cX5_tellRange 35 = .ok (.iload 6, 2) := by decide +kernel
theorem dX5_tellRange_37 : decode cX5_tellRange 37 = .ok (.invokevirtual 59, 3) := by decide +kernel
theorem dX5_tellRange_40 : decode cX5_tellRange 40 = .ok (.ireturn, 1) := by decide +kernel
set_option maxRecDepth 20000 in
theorem ggX5_endOfSpan_X4_gather : GoodIn wsX5_endOfSpan wsX4_gather := goodIn_r _ [7, 8, 9, 10, 11, 12, 13, 14, 15, 16, 17, 18, 19, 20, 21, 22, 23, 24, 25, 26, 27, 28, 29, 30, 31, 32, 33, 34, 35, 36, 37, 38, 39, 6, 40, 41, 42, 43, 99, 100, 101, 102, 103, 104, 105, 106, 107, 108, 109, 110, 111, 112] (by decide +kernel) (by decide +kernel)
set_option maxRecDepth 20000 in
theorem gX5_endOfSpan_X4_gather : GoodIn wsX5_endOfSpan (wsV RX5 137 RX4 yX4_gather wsX4_gather) := goodIn_app (goodIn_of _ (by decide +kernel)) ggX5_endOfSpan_X4_gather
set_option maxRecDepth 20000 in
theorem ggX5_endOfSpan_X4_measureFrom : GoodIn wsX5_endOfSpan wsX4_measureFrom := goodIn_r _ [47, 48, 49, 50, 51, 6, 52, 53, 54, 55, 56, 57, 58, 59, 60, 61, 62, 63, 64, 65, 66, 67, 68, 69, 70, 71, 72, 73, 74, 8, 41, 42, 43, 99, 100, 101, 102, 103, 104] (by decide +kernel) (by decide +kernel)
set_option maxRecDepth 20000 in
theorem gX5_endOfSpan_X4_measureFrom : GoodIn wsX5_endOfSpan (wsV RX5 141 RX4 yX4_measureFrom wsX4_measureFrom) := goodIn_app (goodIn_of _ (by decide +kernel)) ggX5_endOfSpan_X4_measureFrom
set_option maxRecDepth 20000 in
theorem ggX5_endOfSpan_X5_refuse : GoodIn wsX5_endOfSpan wsX5_refuse := goodIn_r _ [79, 80, 89, 90, 91, 92, 93, 94, 95, 96, 97, 98] (by decide +kernel) (by decide +kernel)
set_option maxRecDepth 20000 in
theorem gX5_endOfSpan_X5_refuse : GoodIn wsX5_endOfSpan (wsV RX5 55 RX5 yX5_refuse wsX5_refuse) := goodIn_app (goodIn_of _ (by decide +kernel)) ggX5_endOfSpan_X5_refuse
set_option maxRecDepth 20000 in
theorem ggX5_endOfSpan_X4_wayTo : GoodIn wsX5_endOfSpan wsX4_wayTo := goodIn_r _ [84, 48, 53, 99, 100, 101, 102, 103, 104] (by decide +kernel) (by decide +kernel)
set_option maxRecDepth 20000 in
theorem gX5_endOfSpan_X4_wayTo : GoodIn wsX5_endOfSpan (wsV RX5 151 RX4 yX4_wayTo wsX4_wayTo) := goodIn_app (goodIn_of _ (by decide +kernel)) ggX5_endOfSpan_X4_wayTo
set_option maxRecDepth 20000 in
theorem ggX5_endOfSpan_X5_answer : GoodIn wsX5_endOfSpan wsX5_answer := goodIn_r _ [88, 80, 89, 90, 91, 92, 93, 94, 95, 96, 97, 98] (by decide +kernel) (by decide +kernel)
set_option maxRecDepth 20000 in
theorem gX5_endOfSpan_X5_answer : GoodIn wsX5_endOfSpan (wsV RX5 59 RX5 yX5_answer wsX5_answer) := goodIn_app (goodIn_of _ (by decide +kernel)) ggX5_endOfSpan_X5_answer
theorem dX5_endOfSpan_0 : decode cX5_endOfSpan 0 = .ok (.aload_n 0, 1) := by decide +kernel
theorem dX5_endOfSpan_1 : decode cX5_endOfSpan 1 = .ok (.getfield 19, 3) := by decide +kernel
theorem dX5_endOfSpan_4 : decode cX5_endOfSpan 4 = .ok (.aload_n 0, 1) := by decide +kernel
theorem dX5_endOfSpan_5 : decode cX5_endOfSpan 5 = .ok (.getfield 12, 3) := by decide +kernel
theorem dX5_endOfSpan_8 : decode cX5_endOfSpan 8 = .ok (.iload_n 3, 1) := by decide +kernel
theorem dX5_endOfSpan_9 : decode cX5_endOfSpan 9 = .ok (.iconst (-1), 1) := by decide +kernel
theorem dX5_endOfSpan_10 : decode cX5_endOfSpan 10 = .ok (.invokevirtual 137, 3) := by decide +kernel
theorem dX5_endOfSpan_13 : decode cX5_endOfSpan 13 = .ok (.aload_n 0, 1) := by decide +kernel
theorem dX5_endOfSpan_14 : decode cX5_endOfSpan 14 = .ok (.getfield 19, 3) := by decide +kernel
theorem dX5_endOfSpan_17 : decode cX5_endOfSpan 17 = .ok (.iload_n 2, 1) := by decide +kernel
theorem dX5_endOfSpan_18 : decode cX5_endOfSpan 18 = .ok (.ifCond .eq 7, 3) := by decide +kernel
theorem dX5_endOfSpan_21 : decode cX5_endOfSpan 21 = .ok (.iconst 0, 1) := by decide +kernel
theorem dX5_endOfSpan_22 : decode cX5_endOfSpan 22 = .ok (.goto 4, 3) := by decide +kernel
theorem dX5_endOfSpan_25 : decode cX5_endOfSpan 25 = .ok (.iload_n 1, 1) := by decide +kernel
theorem dX5_endOfSpan_26 : decode cX5_endOfSpan 26 = .ok (.invokevirtual 141, 3) := by decide +kernel
theorem dX5_endOfSpan_29 : decode cX5_endOfSpan 29 = .ok (.ifCond .ne 9, 3) := by decide +kernel
theorem dX5_endOfSpan_32 : decode cX5_endOfSpan 32 = .ok (.aload_n 0, 1) := by decide +kernel
theorem dX5_endOfSpan_33 : decode cX5_endOfSpan 33 = .ok (.iconst 5, 1) := by decide +kernel
theorem dX5_endOfSpan_34 : decode cX5_endOfSpan 34 = .ok (.invokevirtual 55, 3) := by decide +kernel
theorem dX5_endOfSpan_37 : decode cX5_endOfSpan 37 = .ok (.ireturn, 1) := by decide +kernel
theorem dX5_endOfSpan_38 : decode cX5_endOfSpan 38 = .ok (.aload_n 0, 1) := by decide +kernel
theorem dX5_endOfSpan_39 : decode cX5_endOfSpan 39 = .ok (.iload_n 2, 1) := by decide +kernel
theorem dX5_endOfSpan_40 : decode cX5_endOfSpan 40 = .ok (.ifCond .eq 14, 3) := by decide +kernel
theorem dX5_endOfSpan_43 : decode cX5_endOfSpan 43 = .ok (.aload_n 0, 1) := by decide +kernel
theorem dX5_endOfSpan_44 : decode cX5_endOfSpan 44 = .ok (.getfield 19, 3) := by decide +kernel
theorem dX5_endOfSpan_47 : decode cX5_endOfSpan 47 = .ok (.iload_n 1, 1) := by decide +kernel
theorem dX5_endOfSpan_48 : decode cX5_endOfSpan 48 = .ok (.invokevirtual 151, 3) := by decide +kernel
theorem dX5_endOfSpan_51 : decode cX5_endOfSpan 51 = .ok (.goto 12, 3) := by decide +kernel
theorem dX5_endOfSpan_54 : decode cX5_endOfSpan 54 = .ok (.aload_n 0, 1) := by decide +kernel
theorem dX5_endOfSpan_55 : decode cX5_endOfSpan 55 = .ok (.getfield 19, 3) := by decide +kernel
theorem dX5_endOfSpan_58 : decode cX5_endOfSpan 58 = .ok (.iconst 0, 1) := by decide +kernel
theorem dX5_endOfSpan_59 : decode cX5_endOfSpan 59 = .ok (.invokevirtual 151, 3) := by decide +kernel
theorem dX5_endOfSpan_62 : decode cX5_endOfSpan 62 = .ok (.ineg, 1) := by decide +kernel
theorem dX5_endOfSpan_63 : decode cX5_endOfSpan 63 = .ok (.invokevirtual 59, 3) := by decide +kernel
theorem dX5_endOfSpan_66 : decode cX5_endOfSpan 66 = .ok (.ireturn, 1) := by decide +kernel
theorem dX6_init_0 : decode cX6_init 0 = .ok (.aload_n 0, 1) := by decide +kernel
theorem dX6_init_1 : decode cX6_init 1 = .ok (.invokespecial 1, 3) := by decide +kernel
theorem dX6_init_4 : decode cX6_init 4 = .ok (.aload_n 0, 1) := by decide +kernel
theorem dX6_init_5 : decode cX6_init 5 = .ok (.bipush 100, 2) := by decide +kernel
theorem dX6_init_7 : decode cX6_init 7 = .ok (.newarray .int, 2) := by decide +kernel
theorem dX6_init_9 : decode cX6_init 9 = .ok (.putfield 7, 3) := by decide +kernel
theorem dX6_init_12 : decode cX6_init 12 = .ok (.aload_n 0, 1) := by decide +kernel
theorem dX6_init_13 : decode cX6_init 13 = .ok (.bipush 100, 2) := by decide +kernel
theorem dX6_init_15 : decode cX6_init 15 = .ok (.newarray .int, 2) := by decide +kernel
theorem dX6_init_17 : decode cX6_init 17 = .ok (.putfield 13, 3) := by decide +kernel
theorem dX6_init_20 : decode cX6_init 20 = .ok (.aload_n 0, 1) := by decide +kernel
theorem dX6_init_21 : decode cX6_init 21 = .ok (.bipush 100, 2) := by decide +kernel
theorem dX6_init_23 : decode cX6_init 23 = .ok (.newarray .int, 2) := by decide +kernel
theorem dX6_init_25 : decode cX6_init 25 = .ok (.putfield 16, 3) := by decide +kernel
theorem dX6_init_28 : decode cX6_init 28 = .ok (.aload_n 0, 1) := by decide +kernel
theorem dX6_init_29 : decode cX6_init 29 = .ok (.bipush 100, 2) := by decide +kernel
theorem dX6_init_31 : decode cX6_init 31 = .ok (.newarray .int, 2) := by decide +kernel
theorem dX6_init_33 : decode cX6_init 33 = .ok (.putfield 19, 3) := by decide +kernel
theorem dX6_init_36 : decode cX6_init 36 = .ok (.aload_n 0, 1) := by decide +kernel
theorem dX6_init_37 : decode cX6_init 37 = .ok (.bipush 100, 2) := by decide +kernel
theorem dX6_init_39 : decode cX6_init 39 = .ok (.newarray .int, 2) := by decide +kernel
theorem dX6_init_41 : decode cX6_init 41 = .ok (.putfield 22, 3) := by decide +kernel
theorem dX6_init_44 : decode cX6_init 44 = .ok (.aload_n 0, 1) := by decide +kernel
theorem dX6_init_45 : decode cX6_init 45 = .ok (.bipush 100, 2) := by decide +kernel
theorem dX6_init_47 : decode cX6_init 47 = .ok (.newarray .int, 2) := by decide +kernel
theorem dX6_init_49 : decode cX6_init 49 = .ok (.putfield 25, 3) := by decide +kernel
theorem dX6_init_52 : decode cX6_init 52 = .ok (.aload_n 0, 1) := by decide +kernel
theorem dX6_init_53 : decode cX6_init 53 = .ok (.sipush 400, 3) := by decide +kernel
theorem dX6_init_56 : decode cX6_init 56 = .ok (.newarray .int, 2) := by decide +kernel
theorem dX6_init_58 : decode cX6_init 58 = .ok (.putfield 28, 3) := by decide +kernel
theorem dX6_init_61 : decode cX6_init 61 = .ok (.aload_n 0, 1) := by decide +kernel
theorem dX6_init_62 : decode cX6_init 62 = .ok (.sipush 400, 3) := by decide +kernel
theorem dX6_init_65 : decode cX6_init 65 = .ok (.newarray .int, 2) := by decide +kernel
theorem dX6_init_67 : decode cX6_init 67 = .ok (.putfield 31, 3) := by decide +kernel
theorem dX6_init_70 : decode cX6_init 70 = .ok (.aload_n 0, 1) := by decide +kernel
theorem dX6_init_71 : decode cX6_init 71 = .ok (.sipush 400, 3) := by decide +kernel
theorem dX6_init_74 : decode cX6_init 74 = .ok (.newarray .long, 2) := by decide +kernel
theorem dX6_init_76 : decode cX6_init 76 = .ok (.putfield 34, 3) := by decide +kernel
theorem dX6_init_79 : decode cX6_init 79 = .ok (.aload_n 0, 1) := by decide +kernel
theorem dX6_init_80 : decode cX6_init 80 = .ok (.bipush 53, 2) := by decide +kernel
theorem dX6_init_82 : decode cX6_init 82 = .ok (.newarray .long, 2) := by decide +kernel
theorem dX6_init_84 : decode cX6_init 84 = .ok (.putfield 38, 3) := by decide +kernel
theorem dX6_init_87 : decode cX6_init 87 = .ok (.aload_n 0, 1) := by decide +kernel
theorem dX6_init_88 : decode cX6_init 88 = .ok (.sipush 2809, 3) := by decide +kernel
theorem dX6_init_91 : decode cX6_init 91 = .ok (.newarray .long, 2) := by decide +kernel
theorem dX6_init_93 : decode cX6_init 93 = .ok (.putfield 41, 3) := by decide +kernel
theorem dX6_init_96 : decode cX6_init 96 = .ok (.aload_n 0, 1) := by decide +kernel
theorem dX6_init_97 : decode cX6_init 97 = .ok (.sipush 2809, 3) := by decide +kernel
theorem dX6_init_100 : decode cX6_init 100 = .ok (.newarray .long, 2) := by decide +kernel
theorem dX6_init_102 : decode cX6_init 102 = .ok (.putfield 44, 3) := by decide +kernel
theorem dX6_init_105 : decode cX6_init 105 = .ok (.aload_n 0, 1) := by decide +kernel
theorem dX6_init_106 : decode cX6_init 106 = .ok (.bipush 20, 2) := by decide +kernel
theorem dX6_init_108 : decode cX6_init 108 = .ok (.newarray .int, 2) := by decide +kernel
theorem dX6_init_110 : decode cX6_init 110 = .ok (.putfield 47, 3) := by decide +kernel
theorem dX6_init_113 : decode cX6_init 113 = .ok (.aload_n 0, 1) := by decide +kernel
theorem dX6_init_114 : decode cX6_init 114 = .ok (.bipush 20, 2) := by decide +kernel
theorem dX6_init_116 : decode cX6_init 116 = .ok (.newarray .int, 2) := by decide +kernel
theorem dX6_init_118 : decode cX6_init 118 = .ok (.putfield 50, 3) := by decide +kernel
theorem dX6_init_121 : decode cX6_init 121 = .ok (.aload_n 0, 1) := by decide +kernel
theorem dX6_init_122 : decode cX6_init 122 = .ok (.bipush 20, 2) := by decide +kernel
theorem dX6_init_124 : decode cX6_init 124 = .ok (.newarray .int, 2) := by decide +kernel
theorem dX6_init_126 : decode cX6_init 126 = .ok (.putfield 53, 3) := by decide +kernel
theorem dX6_init_129 : decode cX6_init 129 = .ok (.aload_n 0, 1) := by decide +kernel
theorem dX6_init_130 : decode cX6_init 130 = .ok (.bipush 20, 2) := by decide +kernel
theorem dX6_init_132 : decode cX6_init 132 = .ok (.newarray .int, 2) := by decide +kernel
theorem dX6_init_134 : decode cX6_init 134 = .ok (.putfield 56, 3) := by decide +kernel
theorem dX6_init_137 : decode cX6_init 137 = .ok (.aload_n 0, 1) := by decide +kernel
theorem dX6_init_138 : decode cX6_init 138 = .ok (.sipush 500, 3) := by decide +kernel
theorem dX6_init_141 : decode cX6_init 141 = .ok (.newarray .int, 2) := by decide +kernel
theorem dX6_init_143 : decode cX6_init 143 = .ok (.putfield 59, 3) := by decide +kernel
theorem dX6_init_146 : decode cX6_init 146 = .ok (.aload_n 0, 1) := by decide +kernel
theorem dX6_init_147 : decode cX6_init 147 = .ok (.sipush 500, 3) := by decide +kernel
theorem dX6_init_150 : decode cX6_init 150 = .ok (.newarray .int, 2) := by decide +kernel
theorem dX6_init_152 : decode cX6_init 152 = .ok (.putfield 62, 3) := by decide +kernel
theorem dX6_init_155 : decode cX6_init 155 = .ok (.aload_n 0, 1) := by decide +kernel
theorem dX6_init_156 : decode cX6_init 156 = .ok (.bipush 20, 2) := by decide +kernel
theorem dX6_init_158 : decode cX6_init 158 = .ok (.newarray .int, 2) := by decide +kernel
theorem dX6_init_160 : decode cX6_init 160 = .ok (.putfield 65, 3) := by decide +kernel
theorem dX6_init_163 : decode cX6_init 163 = .ok (.aload_n 0, 1) := by decide +kernel
theorem dX6_init_164 : decode cX6_init 164 = .ok (.bipush 20, 2) := by decide +kernel
theorem dX6_init_166 : decode cX6_init 166 = .ok (.newarray .int, 2) := by decide +kernel
theorem dX6_init_168 : decode cX6_init 168 = .ok (.putfield 68, 3) := by decide +kernel
theorem dX6_init_171 : decode cX6_init 171 = .ok (.aload_n 0, 1) := by decide +kernel
theorem dX6_init_172 : decode cX6_init 172 = .ok (.bipush 20, 2) := by decide +kernel
theorem dX6_init_174 : decode cX6_init 174 = .ok (.newarray .int, 2) := by decide +kernel
theorem dX6_init_176 : decode cX6_init 176 = .ok (.putfield 71, 3) := by decide +kernel
theorem dX6_init_179 : decode cX6_init 179 = .ok (.aload_n 0, 1) := by decide +kernel
theorem dX6_init_180 : decode cX6_init 180 = .ok (.bipush 20, 2) := by decide +kernel
theorem dX6_init_182 : decode cX6_init 182 = .ok (.newarray .int, 2) := by decide +kernel
theorem dX6_init_184 : decode cX6_init 184 = .ok (.putfield 74, 3) := by decide +kernel
theorem dX6_init_187 : decode cX6_init 187 = .ok (.aload_n 0, 1) := by decide +kernel
theorem dX6_init_188 : decode cX6_init 188 = .ok (.bipush 20, 2) := by decide +kernel
theorem dX6_init_190 : decode cX6_init 190 = .ok (.newarray .int, 2) := by decide +kernel
theorem dX6_init_192 : decode cX6_init 192 = .ok (.putfield 77, 3) := by decide +kernel
theorem dX6_init_195 : decode cX6_init 195 = .ok (.aload_n 0, 1) := by decide +kernel
theorem dX6_init_196 : decode cX6_init 196 = .ok (.sipush 501, 3) := by decide +kernel
theorem dX6_init_199 : decode cX6_init 199 = .ok (.newarray .int, 2) := by decide +kernel
theorem dX6_init_201 : decode cX6_init 201 = .ok (.putfield 80, 3) := by decide +kernel
theorem dX6_init_204 : decode cX6_init 204 = .ok (.aload_n 0, 1) := by decide +kernel
theorem dX6_init_205 : decode cX6_init 205 = .ok (.sipush 501, 3) := by decide +kernel
theorem dX6_init_208 : decode cX6_init 208 = .ok (.newarray .int, 2) := by decide +kernel
theorem dX6_init_210 : decode cX6_init 210 = .ok (.putfield 83, 3) := by decide +kernel
theorem dX6_init_213 : decode cX6_init 213 = .ok (.aload_n 0, 1) := by decide +kernel
theorem dX6_init_214 : decode cX6_init 214 = .ok (.bipush 10, 2) := by decide +kernel
theorem dX6_init_216 : decode cX6_init 216 = .ok (.newarray .int, 2) := by decide +kernel
theorem dX6_init_218 : decode cX6_init 218 = .ok (.putfield 86, 3) := by decide +kernel
theorem dX6_init_221 : decode cX6_init 221 = .ok (.aload_n 0, 1) := by decide +kernel
theorem dX6_init_222 : decode cX6_init 222 = .ok (.bipush 10, 2) := by decide +kernel
theorem dX6_init_224 : decode cX6_init 224 = .ok (.newarray .int, 2) := by decide +kernel
theorem dX6_init_226 : decode cX6_init 226 = .ok (.putfield 89, 3) := by decide +kernel
theorem dX6_init_229 : decode cX6_init 229 = .ok (.aload_n 0, 1) := by decide +kernel
theorem dX6_init_230 : decode cX6_init 230 = .ok (.bipush 60, 2) := by decide +kernel
theorem dX6_init_232 : decode cX6_init 232 = .ok (.newarray .int, 2) := by decide +kernel
theorem dX6_init_234 : decode cX6_init 234 = .ok (.putfield 92, 3) := by decide +kernel
theorem dX6_init_237 : decode cX6_init 237 = .ok (.aload_n 0, 1) := by decide +kernel
theorem dX6_init_238 : decode cX6_init 238 = .ok (.bipush 60, 2) := by decide +kernel
theorem dX6_init_240 : decode cX6_init 240 = .ok (.newarray .int, 2) := by decide +kernel
theorem dX6_init_242 : decode cX6_init 242 = .ok (.putfield 95, 3) := by decide +kernel
theorem dX6_init_245 : decode cX6_init 245 = .ok (.aload_n 0, 1) := by decide +kernel
theorem dX6_init_246 : decode cX6_init 246 = .ok (.bipush 60, 2) := by decide +kernel
theorem dX6_init_248 : decode cX6_init 248 = .ok (.newarray .int, 2) := by decide +kernel
theorem dX6_init_250 : decode cX6_init 250 = .ok (.putfield 98, 3) := by decide +kernel
theorem dX6_init_253 : decode cX6_init 253 = .ok (.return_, 1) := by decide +kernel
theorem dX6_status_0 : decode cX6_status 0 = .ok (.aload_n 0, 1) := by decide +kernel
theorem dX6_status_1 : decode cX6_status 1 = .ok (.iconst 0, 1) := by decide +kernel
theorem dX6_status_2 : decode cX6_status 2 = .ok (.putfield 101, 3) := by decide +kernel
theorem dX6_status_5 : decode cX6_status 5 = .ok (.aload_n 0, 1) := by decide +kernel
theorem dX6_status_6 : decode cX6_status 6 = .ok (.getfield 105, 3) := by decide +kernel
theorem dX6_status_9 : decode cX6_status 9 = .ok (.ireturn, 1) := by decide +kernel
theorem dX6_refuse_0 : decode cX6_refuse 0 = .ok (.aload_n 0, 1) := by decide +kernel
theorem dX6_refuse_1 : decode cX6_refuse 1 = .ok (.iload_n 1, 1) := by decide +kernel
theorem dX6_refuse_2 : decode cX6_refuse 2 = .ok (.putfield 105, 3) := by decide +kernel
theorem dX6_refuse_5 : decode cX6_refuse 5 = .ok (.iconst (-1), 1) := by decide +kernel
theorem dX6_refuse_6 : decode cX6_refuse 6 = .ok (.ireturn, 1) := by decide +kernel
theorem dX6_no_0 : decode cX6_no 0 = .ok (.aload_n 0, 1) := by decide +kernel
theorem dX6_no_1 : decode cX6_no 1 = .ok (.iload_n 1, 1) := by decide +kernel
theorem dX6_no_2 : decode cX6_no 2 = .ok (.putfield 105, 3) := by decide +kernel
theorem dX6_no_5 : decode cX6_no 5 = .ok (.iconst 0, 1) := by decide +kernel
theorem dX6_no_6 : decode cX6_no 6 = .ok (.ireturn, 1) := by decide +kernel
theorem dX6_isPlate_0 : decode cX6_isPlate 0 = .ok (.iload_n 1, 1) := by decide +kernel
theorem dX6_isPlate_1 : decode cX6_isPlate 1 = .ok (.ifCond .lt 15, 3) := by decide +kernel
theorem dX6_isPlate_4 : decode cX6_isPlate 4 = .ok (.iload_n 1, 1) := by decide +kernel
theorem dX6_isPlate_5 : decode cX6_isPlate 5 = .ok (.aload_n 0, 1) := by decide +kernel
theorem dX6_isPlate_6 : decode cX6_isPlate 6 = .ok (.getfield 108, 3) := by decide +kernel
theorem dX6_isPlate_9 : decode cX6_isPlate 9 = .ok (.if_icmp .ge 7, 3) := by decide +kernel
theorem dX6_isPlate_12 : decode cX6_isPlate 12 = .ok (.iconst 1, 1) := by decide +kernel
theorem dX6_isPlate_13 : decode cX6_isPlate 13 = .ok (.goto 4, 3) := by decide +kernel
theorem dX6_isPlate_16 : decode cX6_isPlate 16 = .ok (.iconst 0, 1) := by decide +kernel
theorem dX6_isPlate_17 : decode cX6_isPlate 17 = .ok (.ireturn, 1) := by decide +kernel
theorem dX6_isMotif_0 : decode cX6_isMotif 0 = .ok (.iload_n 1, 1) := by decide +kernel
theorem dX6_isMotif_1 : decode cX6_isMotif 1 = .ok (.ifCond .lt 15, 3) := by decide +kernel
theorem dX6_isMotif_4 : decode cX6_isMotif 4 = .ok (.iload_n 1, 1) := by decide +kernel
theorem dX6_isMotif_5 : decode cX6_isMotif 5 = .ok (.aload_n 0, 1) := by decide +kernel
theorem dX6_isMotif_6 : decode cX6_isMotif 6 = .ok (.getfield 111, 3) := by decide +kernel
theorem dX6_isMotif_9 : decode cX6_isMotif 9 = .ok (.if_icmp .ge 7, 3) := by decide +kernel
theorem dX6_isMotif_12 : decode cX6_isMotif 12 = .ok (.iconst 1, 1) := by decide +kernel
theorem dX6_isMotif_13 : decode cX6_isMotif 13 = .ok (.goto 4, 3) := by decide +kernel
theorem dX6_isMotif_16 : decode cX6_isMotif 16 = .ok (.iconst 0, 1) := by decide +kernel
theorem dX6_isMotif_17 : decode cX6_isMotif 17 = .ok (.ireturn, 1) := by decide +kernel
theorem dX6_isDay_0 : decode cX6_isDay 0 = .ok (.iload_n 0, 1) := by decide +kernel
theorem dX6_isDay_1 : decode cX6_isDay 1 = .ok (.ifCond .lt 14, 3) := by decide +kernel
theorem dX6_isDay_4 : decode cX6_isDay 4 = .ok (.iload_n 0, 1) := by decide +kernel
theorem dX6_isDay_5 : decode cX6_isDay 5 = .ok (.sipush 9999, 3) := by decide +kernel
theorem dX6_isDay_8 : decode cX6_isDay 8 = .ok (.if_icmp .gt 7, 3) := by decide +kernel
theorem dX6_isDay_11 : decode cX6_isDay 11 = .ok (.iconst 1, 1) := by decide +kernel
theorem dX6_isDay_12 : decode cX6_isDay 12 = .ok (.goto 4, 3) := by decide +kernel
theorem dX6_isDay_15 : decode cX6_isDay 15 = .ok (.iconst 0, 1) := by decide +kernel
theorem dX6_isDay_16 : decode cX6_isDay 16 = .ok (.ireturn, 1) := by decide +kernel
theorem dX6_isTime_0 : decode cX6_isTime 0 = .ok (.iload_n 0, 1) := by decide +kernel
theorem dX6_isTime_1 : decode cX6_isTime 1 = .ok (.ifCond .lt 13, 3) := by decide +kernel
theorem dX6_isTime_4 : decode cX6_isTime 4 = .ok (.iload_n 0, 1) := by decide +kernel
theorem dX6_isTime_5 : decode cX6_isTime 5 = .ok (.ldc 114, 2) := by decide +kernel
theorem dX6_isTime_7 : decode cX6_isTime 7 = .ok (.if_icmp .gt 7, 3) := by decide +kernel
theorem dX6_isTime_10 : decode cX6_isTime 10 = .ok (.iconst 1, 1) := by decide +kernel
theorem dX6_isTime_11 : decode cX6_isTime 11 = .ok (.goto 4, 3) := by decide +kernel
theorem dX6_isTime_14 : decode cX6_isTime 14 = .ok (.iconst 0, 1) := by decide +kernel
theorem dX6_isTime_15 : decode cX6_isTime 15 = .ok (.ireturn, 1) := by decide +kernel
set_option maxRecDepth 20000 in
theorem ggX6_plate_X6_refuse : GoodIn wsX6_plate wsX6_refuse := goodIn_r _ [13, 2, 14, 15, 16, 17, 18, 19, 20, 21, 22, 23, 24, 25, 26, 27, 28, 29, 30, 31, 32, 33, 34, 35, 36, 37, 38, 39, 40, 41, 42, 43, 44, 45, 46, 47, 48, 49, 50, 51, 52, 53, 54] (by decide +kernel) (by decide +kernel)
set_option maxRecDepth 20000 in
theorem gX6_plate_X6_refuse : GoodIn wsX6_plate (wsV RX6 115 RX6 yX6_refuse wsX6_refuse) := goodIn_app (goodIn_of _ (by decide +kernel)) ggX6_plate_X6_refuse
theorem dX6_plate_0 : decode cX6_plate 0 = .ok (.aload_n 0, 1) := by decide +kernel
theorem dX6_plate_1 : decode cX6_plate 1 = .ok (.iconst 0, 1) := by decide +kernel
theorem dX6_plate_2 : decode cX6_plate 2 = .ok (.putfield 101, 3) := by decide +kernel
theorem dX6_plate_5 : decode cX6_plate 5 = .ok (.aload_n 0, 1) := by decide +kernel
theorem dX6_plate_6 : decode cX6_plate 6 = .ok (.iconst 0, 1) := by decide +kernel
theorem dX6_plate_7 : decode cX6_plate 7 = .ok (.putfield 105, 3) := by decide +kernel
theorem dX6_plate_10 : decode cX6_plate 10 = .ok (.aload_n 0, 1) := by decide +kernel
theorem dX6_plate_11 : decode cX6_plate 11 = .ok (.getfield 108, 3) := by decide +kernel
theorem dX6_plate_14 : decode cX6_plate 14 = .ok (.bipush 20, 2) := by decide +kernel
theorem dX6_plate_16 : decode cX6_plate 16 = .ok (.if_icmp .ne 9, 3) := by decide +kernel
theorem dX6_plate_19 : decode cX6_plate 19 = .ok (.aload_n 0, 1) := by decide +kernel
theorem dX6_plate_20 : decode cX6_plate 20 = .ok (.iconst 3, 1) := by decide +kernel
theorem dX6_plate_21 : decode cX6_plate 21 = .ok (.invokevirtual 115, 3) := by decide +kernel
theorem dX6_plate_24 : decode cX6_plate 24 = .ok (.ireturn, 1) := by decide +kernel
theorem dX6_plate_25 : decode cX6_plate 25 = .ok (.aload_n 0, 1) := by decide +kernel
theorem dX6_plate_26 : decode cX6_plate 26 = .ok (.getfield 47, 3) := by decide +kernel
theorem dX6_plate_29 : decode cX6_plate 29 = .ok (.aload_n 0, 1) := by decide +kernel
theorem dX6_plate_30 : decode cX6_plate 30 = .ok (.getfield 108, 3) := by decide +kernel
theorem dX6_plate_33 : decode cX6_plate 33 = .ok (.iconst 0, 1) := by decide +kernel
theorem dX6_plate_34 : decode cX6_plate 34 = .ok (.iastore, 1) := by decide +kernel
theorem dX6_plate_35 : decode cX6_plate 35 = .ok (.aload_n 0, 1) := by decide +kernel
theorem dX6_plate_36 : decode cX6_plate 36 = .ok (.getfield 50, 3) := by decide +kernel
theorem dX6_plate_39 : decode cX6_plate 39 = .ok (.aload_n 0, 1) := by decide +kernel
theorem dX6_plate_40 : decode cX6_plate 40 = .ok (.getfield 108, 3) := by decide +kernel
theorem dX6_plate_43 : decode cX6_plate 43 = .ok (.iconst 0, 1) := by decide +kernel
theorem dX6_plate_44 : decode cX6_plate 44 = .ok (.iastore, 1) := by decide +kernel
theorem dX6_plate_45 : decode cX6_plate 45 = .ok (.aload_n 0, 1) := by decide +kernel
theorem dX6_plate_46 : decode cX6_plate 46 = .ok (.getfield 65, 3) := by decide +kernel
theorem dX6_plate_49 : decode cX6_plate 49 = .ok (.aload_n 0, 1) := by decide +kernel
theorem dX6_plate_50 : decode cX6_plate 50 = .ok (.getfield 108, 3) := by decide +kernel
theorem dX6_plate_53 : decode cX6_plate 53 = .ok (.iconst 0, 1) := by decide +kernel
theorem dX6_plate_54 : decode cX6_plate 54 = .ok (.iastore, 1) := by decide +kernel
theorem dX6_plate_55 : decode cX6_plate 55 = .ok (.aload_n 0, 1) := by decide +kernel
theorem dX6_plate_56 : decode cX6_plate 56 = .ok (.getfield 68, 3) := by decide +kernel
theorem dX6_plate_59 : decode cX6_plate 59 = .ok (.aload_n 0, 1) := by decide +kernel
theorem dX6_plate_60 : decode cX6_plate 60 = .ok (.getfield 108, 3) := by decide +kernel
theorem dX6_plate_63 : decode cX6_plate 63 = .ok (.iconst 1, 1) := by decide +kernel
theorem dX6_plate_64 : decode cX6_plate 64 = .ok (.iastore, 1) := by decide +kernel
theorem dX6_plate_65 : decode cX6_plate 65 = .ok (.aload_n 0, 1) := by decide +kernel
theorem dX6_plate_66 : decode cX6_plate 66 = .ok (.getfield 71, 3) := by decide +kernel
theorem dX6_plate_69 : decode cX6_plate 69 = .ok (.aload_n 0, 1) := by decide +kernel
theorem dX6_plate_70 : decode cX6_plate 70 = .ok (.getfield 108, 3) := by decide +kernel
theorem dX6_plate_73 : decode cX6_plate 73 = .ok (.sipush 500, 3) := by decide +kernel
theorem dX6_plate_76 : decode cX6_plate 76 = .ok (.iastore, 1) := by decide +kernel
theorem dX6_plate_77 : decode cX6_plate 77 = .ok (.aload_n 0, 1) := by decide +kernel
theorem dX6_plate_78 : decode cX6_plate 78 = .ok (.dup, 1) := by decide +kernel
theorem dX6_plate_79 : decode cX6_plate 79 = .ok (.getfield 108, 3) := by decide +kernel
theorem dX6_plate_82 : decode cX6_plate 82 = .ok (.iconst 1, 1) := by decide +kernel
theorem dX6_plate_83 : decode cX6_plate 83 = .ok (.iadd, 1) := by decide +kernel
theorem dX6_plate_84 : decode cX6_plate 84 = .ok (.putfield 108, 3) := by decide +kernel
theorem dX6_plate_87 : decode cX6_plate 87 = .ok (.aload_n 0, 1) := by decide +kernel
theorem dX6_plate_88 : decode cX6_plate 88 = .ok (.getfield 108, 3) := by decide +kernel
theorem dX6_plate_91 : decode cX6_plate 91 = .ok (.iconst 1, 1) := by decide +kernel
theorem dX6_plate_92 : decode cX6_plate 92 = .ok (.isub, 1) := by decide +kernel
theorem dX6_plate_93 : decode cX6_plate 93 = .ok (.ireturn, 1) := by decide +kernel
set_option maxRecDepth 20000 in
theorem ggX6_motif_X6_refuse : GoodIn wsX6_motif wsX6_refuse := goodIn_r _ [8, 2, 9, 10, 11, 12, 13, 14, 15, 16, 17, 18, 19, 20, 21, 22, 23, 24, 25, 26, 27, 28, 29, 30, 31, 32, 33, 34, 35, 36, 37, 38, 39, 40, 41, 42, 43, 44, 45, 46, 47, 48, 49] (by decide +kernel) (by decide +kernel)
set_option maxRecDepth 20000 in
theorem gX6_motif_X6_refuse : GoodIn wsX6_motif (wsV RX6 115 RX6 yX6_refuse wsX6_refuse) := goodIn_app (goodIn_of _ (by decide +kernel)) ggX6_motif_X6_refuse
theorem dX6_motif_0 : decode cX6_motif 0 = .ok (.aload_n 0, 1) := by decide +kernel
theorem dX6_motif_1 : decode cX6_motif 1 = .ok (.iconst 0, 1) := by decide +kernel
theorem dX6_motif_2 : decode cX6_motif 2 = .ok (.putfield 101, 3) := by decide +kernel
theorem dX6_motif_5 : decode cX6_motif 5 = .ok (.aload_n 0, 1) := by decide +kernel
theorem dX6_motif_6 : decode cX6_motif 6 = .ok (.iconst 0, 1) := by decide +kernel
theorem dX6_motif_7 : decode cX6_motif 7 = .ok (.putfield 105, 3) := by decide +kernel
theorem dX6_motif_10 : decode cX6_motif 10 = .ok (.aload_n 0, 1) := by decide +kernel
theorem dX6_motif_11 : decode cX6_motif 11 = .ok (.getfield 111, 3) := by decide +kernel
theorem dX6_motif_14 : decode cX6_motif 14 = .ok (.bipush 16, 2) := by decide +kernel
theorem dX6_motif_16 : decode cX6_motif 16 = .ok (.if_icmp .ne 9, 3) := by decide +kernel
theorem dX6_motif_19 : decode cX6_motif 19 = .ok (.aload_n 0, 1) := by decide +kernel
theorem dX6_motif_20 : decode cX6_motif 20 = .ok (.iconst 3, 1) := by decide +kernel
theorem dX6_motif_21 : decode cX6_motif 21 = .ok (.invokevirtual 115, 3) := by decide +kernel
theorem dX6_motif_24 : decode cX6_motif 24 = .ok (.ireturn, 1) := by decide +kernel
theorem dX6_motif_25 : decode cX6_motif 25 = .ok (.aload_n 0, 1) := by decide +kernel
theorem dX6_motif_26 : decode cX6_motif 26 = .ok (.dup, 1) := by decide +kernel
theorem dX6_motif_27 : decode cX6_motif 27 = .ok (.getfield 111, 3) := by decide +kernel
theorem dX6_motif_30 : decode cX6_motif 30 = .ok (.iconst 1, 1) := by decide +kernel
theorem dX6_motif_31 : decode cX6_motif 31 = .ok (.iadd, 1) := by decide +kernel
theorem dX6_motif_32 : decode cX6_motif 32 = .ok (.putfield 111, 3) := by decide +kernel
theorem dX6_motif_35 : decode cX6_motif 35 = .ok (.aload_n 0, 1) := by decide +kernel
theorem dX6_motif_36 : decode cX6_motif 36 = .ok (.getfield 111, 3) := by decide +kernel
theorem dX6_motif_39 : decode cX6_motif 39 = .ok (.iconst 1, 1) := by decide +kernel
theorem dX6_motif_40 : decode cX6_motif 40 = .ok (.isub, 1) := by decide +kernel
theorem dX6_motif_41 : decode cX6_motif 41 = .ok (.ireturn, 1) := by decide +kernel
set_option maxRecDepth 20000 in
theorem ggX6_adds_X6_refuse : GoodIn wsX6_adds wsX6_refuse := goodIn_r _ [12, 13, 14, 15, 16, 17, 18, 19, 20, 21, 22, 23, 24, 25, 26, 27, 28, 29, 30, 31, 32, 33, 34, 35, 36, 37, 38, 39, 40, 41, 42, 43, 44, 45, 46, 47, 48, 49, 50, 51, 52, 53, 54] (by decide +kernel) (by decide +kernel)
set_option maxRecDepth 20000 in
theorem gX6_adds_X6_refuse : GoodIn wsX6_adds (wsV RX6 115 RX6 yX6_refuse wsX6_refuse) := goodIn_app (goodIn_of _ (by decide +kernel)) ggX6_adds_X6_refuse
theorem dX6_adds_0 : decode cX6_adds 0 = .ok (.aload_n 0, 1) := by decide +kernel
theorem dX6_adds_1 : decode cX6_adds 1 = .ok (.getfield 119, 3) := by decide +kernel
theorem dX6_adds_4 : decode cX6_adds 4 = .ok (.bipush 100, 2) := by decide +kernel
theorem dX6_adds_6 : decode cX6_adds 6 = .ok (.if_icmp .ne 9, 3) := by decide +kernel
theorem dX6_adds_9 : decode cX6_adds 9 = .ok (.aload_n 0, 1) := by decide +kernel
theorem dX6_adds_10 : decode cX6_adds 10 = .ok (.iconst 3, 1) := by decide +kernel
theorem dX6_adds_11 : decode cX6_adds 11 = .ok (.invokevirtual 115, 3) := by decide +kernel
theorem dX6_adds_14 : decode cX6_adds 14 = .ok (.ireturn, 1) := by decide +kernel
theorem dX6_adds_15 : decode cX6_adds 15 = .ok (.aload_n 0, 1) := by decide +kernel
theorem dX6_adds_16 : decode cX6_adds 16 = .ok (.getfield 7, 3) := by decide +kernel
theorem dX6_adds_19 : decode cX6_adds 19 = .ok (.aload_n 0, 1) := by decide +kernel
theorem dX6_adds_20 : decode cX6_adds 20 = .ok (.getfield 119, 3) := by decide +kernel
theorem dX6_adds_23 : decode cX6_adds 23 = .ok (.iload_n 1, 1) := by decide +kernel
theorem dX6_adds_24 : decode cX6_adds 24 = .ok (.iastore, 1) := by decide +kernel
theorem dX6_adds_25 : decode cX6_adds 25 = .ok (.aload_n 0, 1) := by decide +kernel
theorem dX6_adds_26 : decode cX6_adds 26 = .ok (.getfield 13, 3) := by decide +kernel
theorem dX6_adds_29 : decode cX6_adds 29 = .ok (.aload_n 0, 1) := by decide +kernel
theorem dX6_adds_30 : decode cX6_adds 30 = .ok (.getfield 119, 3) := by decide +kernel
theorem dX6_adds_33 : decode cX6_adds 33 = .ok (.iload_n 2, 1) := by decide +kernel
theorem dX6_adds_34 : decode cX6_adds 34 = .ok (.iastore, 1) := by decide +kernel
theorem dX6_adds_35 : decode cX6_adds 35 = .ok (.aload_n 0, 1) := by decide +kernel
theorem dX6_adds_36 : decode cX6_adds 36 = .ok (.getfield 16, 3) := by decide +kernel
theorem dX6_adds_39 : decode cX6_adds 39 = .ok (.aload_n 0, 1) := by decide +kernel
theorem dX6_adds_40 : decode cX6_adds 40 = .ok (.getfield 119, 3) := by decide +kernel
theorem dX6_adds_43 : decode cX6_adds 43 = .ok (.iload_n 3, 1) := by decide +kernel
theorem dX6_adds_44 : decode cX6_adds 44 = .ok (.iastore, 1) := by decide +kernel
theorem dX6_adds_45 : decode cX6_adds 45 = .ok (.aload_n 0, 1) := by decide +kernel
theorem dX6_adds_46 : decode cX6_adds 46 = .ok (.getfield 19, 3) := by decide +kernel
theorem dX6_adds_49 : decode cX6_adds 49 = .ok (.aload_n 0, 1) := by decide +kernel
theorem dX6_adds_50 : decode cX6_adds 50 = .ok (.getfield 119, 3) := by decide +kernel
theorem dX6_adds_53 : decode cX6_adds 53 = .ok (.iload 4, 2) := by decide +kernel
theorem dX6_adds_55 : decode cX6_adds 55 = .ok (.iastore, 1) := by decide +kernel
theorem dX6_adds_56 : decode cX6_adds 56 = .ok (.aload_n 0, 1) := by decide +kernel
theorem dX6_adds_57 : decode cX6_adds 57 = .ok (.getfield 22, 3) := by decide +kernel
theorem dX6_adds_60 : decode cX6_adds 60 = .ok (.aload_n 0, 1) := by decide +kernel
theorem dX6_adds_61 : decode cX6_adds 61 = .ok (.getfield 119, 3) := by decide +kernel
theorem dX6_adds_64 : decode cX6_adds 64 = .ok (.iload 5, 2) := by decide +kernel
theorem dX6_adds_66 : decode cX6_adds 66 = .ok (.iastore, 1) := by decide +kernel
theorem dX6_adds_67 : decode cX6_adds 67 = .ok (.aload_n 0, 1) := by decide +kernel
theorem dX6_adds_68 : decode cX6_adds 68 = .ok (.getfield 25, 3) := by decide +kernel
theorem dX6_adds_71 : decode cX6_adds 71 = .ok (.aload_n 0, 1) := by decide +kernel
theorem dX6_adds_72 : decode cX6_adds 72 = .ok (.getfield 119, 3) := by decide +kernel
theorem dX6_adds_75 : decode cX6_adds 75 = .ok (.iconst (-1), 1) := by decide +kernel
theorem dX6_adds_76 : decode cX6_adds 76 = .ok (.iastore, 1) := by decide +kernel
theorem dX6_adds_77 : decode cX6_adds 77 = .ok (.aload_n 0, 1) := by decide +kernel
theorem dX6_adds_78 : decode cX6_adds 78 = .ok (.dup, 1) := by decide +kernel
theorem dX6_adds_79 : decode cX6_adds 79 = .ok (.getfield 119, 3) := by decide +kernel
theorem dX6_adds_82 : decode cX6_adds 82 = .ok (.iconst 1, 1) := by decide +kernel
theorem dX6_adds_83 : decode cX6_adds 83 = .ok (.iadd, 1) := by decide +kernel
theorem dX6_adds_84 : decode cX6_adds 84 = .ok (.putfield 119, 3) := by decide +kernel
theorem dX6_adds_87 : decode cX6_adds 87 = .ok (.aload_n 0, 1) := by decide +kernel
theorem dX6_adds_88 : decode cX6_adds 88 = .ok (.getfield 119, 3) := by decide +kernel
theorem dX6_adds_91 : decode cX6_adds 91 = .ok (.iconst 1, 1) := by decide +kernel
theorem dX6_adds_92 : decode cX6_adds 92 = .ok (.isub, 1) := by decide +kernel
theorem dX6_adds_93 : decode cX6_adds 93 = .ok (.ireturn, 1) := by decide +kernel
set_option maxRecDepth 20000 in
theorem ggX6_shows_X6_isPlate : GoodIn wsX6_shows wsX6_isPlate := goodIn_r _ [7, 8, 32, 33, 34, 35, 36, 37, 38, 39, 40, 41, 42, 43, 44, 45, 46, 47, 48, 49, 50, 51, 52, 53, 54, 55, 56, 57, 58, 59, 60, 61, 62, 63, 64, 65, 66, 67, 68, 69, 70, 71, 72] (by decide +kernel) (by decide +kernel)
set_option maxRecDepth 20000 in
theorem gX6_shows_X6_isPlate : GoodIn wsX6_shows (wsV RX6 122 RX6 yX6_isPlate wsX6_isPlate) := goodIn_app (goodIn_of _ (by decide +kernel)) ggX6_shows_X6_isPlate
set_option maxRecDepth 20000 in
theorem ggX6_shows_X6_isMotif : GoodIn wsX6_shows wsX6_isMotif := goodIn_r _ [12, 13, 32, 33, 34, 35, 36, 37, 38, 39, 40, 41, 42, 43, 44, 45, 46, 47, 48, 49, 50, 51, 52, 53, 54, 55, 56, 57, 58, 59, 60, 61, 62, 63, 64, 65, 66, 67, 68, 69, 70, 71, 72] (by decide +kernel) (by decide +kernel)
set_option maxRecDepth 20000 in
theorem gX6_shows_X6_isMotif : GoodIn wsX6_shows (wsV RX6 126 RX6 yX6_isMotif wsX6_isMotif) := goodIn_app (goodIn_of _ (by decide +kernel)) ggX6_shows_X6_isMotif
set_option maxRecDepth 20000 in
theorem ggX6_shows_X6_refuse : GoodIn wsX6_shows wsX6_refuse := goodIn_r _ [17, 2, 32, 33, 34, 35, 36, 37, 38, 39, 40, 41, 42, 43, 44, 45, 46, 47, 48, 49, 50, 51, 52, 53, 54, 55, 56, 57, 58, 59, 60, 61, 62, 63, 64, 65, 66, 67, 68, 69, 70, 71, 72] (by decide +kernel) (by decide +kernel)
set_option maxRecDepth 20000 in
theorem gX6_shows_X6_refuse : GoodIn wsX6_shows (wsV RX6 115 RX6 yX6_refuse wsX6_refuse) := goodIn_app (goodIn_of _ (by decide +kernel)) ggX6_shows_X6_refuse
set_option maxRecDepth 20000 in
theorem ggX6_shows_X6_isDay : GoodIn wsX6_shows wsX6_isDay := goodIn_r _ [20] (by decide +kernel) (by decide +kernel)
set_option maxRecDepth 20000 in
theorem gX6_shows_X6_isDay : GoodIn wsX6_shows (va_wsS RX6 129 yX6_isDay wsX6_isDay) := goodIn_app (goodIn_of _ (by decide +kernel)) ggX6_shows_X6_isDay
set_option maxRecDepth 20000 in
theorem ggX6_shows_X6_adds : GoodIn wsX6_shows wsX6_adds := goodIn_r _ [24, 25, 26, 27, 28, 29, 30, 31, 14, 15, 16, 6, 17, 2, 32, 33, 34, 35, 36, 37, 38, 39, 40, 41, 42, 43, 44, 45, 46, 47, 48, 49, 50, 51, 52, 53, 54, 55, 56, 57, 58, 59, 60, 61, 62, 63, 64, 65, 66, 67, 68, 69, 70, 71, 72] (by decide +kernel) (by decide +kernel)
set_option maxRecDepth 20000 in
theorem gX6_shows_X6_adds : GoodIn wsX6_shows (wsV RX6 132 RX6 yX6_adds wsX6_adds) := goodIn_app (goodIn_of _ (by decide +kernel)) ggX6_shows_X6_adds
theorem dX6_shows_0 : decode cX6_shows 0 = .ok (.aload_n 0, 1) := by decide +kernel
theorem dX6_shows_1 : decode cX6_shows 1 = .ok (.iconst 0, 1) := by decide +kernel
theorem dX6_shows_2 : decode cX6_shows 2 = .ok (.putfield 101, 3) := by decide +kernel
theorem dX6_shows_5 : decode cX6_shows 5 = .ok (.aload_n 0, 1) := by decide +kernel
theorem dX6_shows_6 : decode cX6_shows 6 = .ok (.iconst 0, 1) := by decide +kernel
theorem dX6_shows_7 : decode cX6_shows 7 = .ok (.putfield 105, 3) := by decide +kernel
theorem dX6_shows_10 : decode cX6_shows 10 = .ok (.aload_n 0, 1) := by decide +kernel
theorem dX6_shows_11 : decode cX6_shows 11 = .ok (.iload_n 1, 1) := by decide +kernel
theorem dX6_shows_12 : decode cX6_shows 12 = .ok (.invokevirtual 122, 3) := by decide +kernel
theorem dX6_shows_15 : decode cX6_shows 15 = .ok (.ifCond .eq 11, 3) := by decide +kernel
theorem dX6_shows_18 : decode cX6_shows 18 = .ok (.aload_n 0, 1) := by decide +kernel
theorem dX6_shows_19 : decode cX6_shows 19 = .ok (.iload_n 2, 1) := by decide +kernel
theorem dX6_shows_20 : decode cX6_shows 20 = .ok (.invokevirtual 126, 3) := by decide +kernel
theorem dX6_shows_23 : decode cX6_shows 23 = .ok (.ifCond .ne 9, 3) := by decide +kernel
theorem dX6_shows_26 : decode cX6_shows 26 = .ok (.aload_n 0, 1) := by decide +kernel
theorem dX6_shows_27 : decode cX6_shows 27 = .ok (.iconst 1, 1) := by decide +kernel
theorem dX6_shows_28 : decode cX6_shows 28 = .ok (.invokevirtual 115, 3) := by decide +kernel
theorem dX6_shows_31 : decode cX6_shows 31 = .ok (.ireturn, 1) := by decide +kernel
theorem dX6_shows_32 : decode cX6_shows 32 = .ok (.iload_n 3, 1) := by decide +kernel
theorem dX6_shows_33 : decode cX6_shows 33 = .ok (.invokestatic 129, 3) := by decide +kernel
theorem dX6_shows_36 : decode cX6_shows 36 = .ok (.ifCond .eq 15, 3) := by decide +kernel
theorem dX6_shows_39 : decode cX6_shows 39 = .ok (.aload_n 0, 1) := by decide +kernel
theorem dX6_shows_40 : decode cX6_shows 40 = .ok (.iconst 0, 1) := by decide +kernel
theorem dX6_shows_41 : decode cX6_shows 41 = .ok (.iload_n 1, 1) := by decide +kernel
theorem dX6_shows_42 : decode cX6_shows 42 = .ok (.iload_n 2, 1) := by decide +kernel
theorem dX6_shows_43 : decode cX6_shows 43 = .ok (.iconst 0, 1) := by decide +kernel
theorem dX6_shows_44 : decode cX6_shows 44 = .ok (.iload_n 3, 1) := by decide +kernel
theorem dX6_shows_45 : decode cX6_shows 45 = .ok (.invokevirtual 132, 3) := by decide +kernel
theorem dX6_shows_48 : decode cX6_shows 48 = .ok (.goto 8, 3) := by decide +kernel
theorem dX6_shows_51 : decode cX6_shows 51 = .ok (.aload_n 0, 1) := by decide +kernel
theorem dX6_shows_52 : decode cX6_shows 52 = .ok (.iconst 2, 1) := by decide +kernel
theorem dX6_shows_53 : decode cX6_shows 53 = .ok (.invokevirtual 115, 3) := by decide +kernel
theorem dX6_shows_56 : decode cX6_shows 56 = .ok (.ireturn, 1) := by decide +kernel
set_option maxRecDepth 20000 in
theorem ggX6_ahead_X6_isPlate : GoodIn wsX6_ahead wsX6_isPlate := goodIn_r _ [9, 10, 29, 30, 31, 32, 33, 34, 35, 36, 37, 38, 39, 40, 41, 42, 43, 44, 45, 46, 47, 48, 49, 50, 51, 52, 53, 54, 55, 56, 57, 58, 59, 60, 61, 62, 63, 64, 65, 66, 67, 68, 69] (by decide +kernel) (by decide +kernel)
set_option maxRecDepth 20000 in
theorem gX6_ahead_X6_isPlate : GoodIn wsX6_ahead (wsV RX6 122 RX6 yX6_isPlate wsX6_isPlate) := goodIn_app (goodIn_of _ (by decide +kernel)) ggX6_ahead_X6_isPlate
set_option maxRecDepth 20000 in
theorem ggX6_ahead_X6_refuse : GoodIn wsX6_ahead wsX6_refuse := goodIn_r _ [14, 2, 29, 30, 31, 32, 33, 34, 35, 36, 37, 38, 39, 40, 41, 42, 43, 44, 45, 46, 47, 48, 49, 50, 51, 52, 53, 54, 55, 56, 57, 58, 59, 60, 61, 62, 63, 64, 65, 66, 67, 68, 69] (by decide +kernel) (by decide +kernel)
set_option maxRecDepth 20000 in
theorem gX6_ahead_X6_refuse : GoodIn wsX6_ahead (wsV RX6 115 RX6 yX6_refuse wsX6_refuse) := goodIn_app (goodIn_of _ (by decide +kernel)) ggX6_ahead_X6_refuse
set_option maxRecDepth 20000 in
theorem ggX6_ahead_X6_isDay : GoodIn wsX6_ahead wsX6_isDay := goodIn_r _ [17] (by decide +kernel) (by decide +kernel)
set_option maxRecDepth 20000 in
theorem gX6_ahead_X6_isDay : GoodIn wsX6_ahead (va_wsS RX6 129 yX6_isDay wsX6_isDay) := goodIn_app (goodIn_of _ (by decide +kernel)) ggX6_ahead_X6_isDay
set_option maxRecDepth 20000 in
theorem ggX6_ahead_X6_adds : GoodIn wsX6_ahead wsX6_adds := goodIn_r _ [21, 22, 23, 24, 25, 26, 27, 28, 11, 12, 13, 8, 14, 2, 29, 30, 31, 32, 33, 34, 35, 36, 37, 38, 39, 40, 41, 42, 43, 44, 45, 46, 47, 48, 49, 50, 51, 52, 53, 54, 55, 56, 57, 58, 59, 60, 61, 62, 63, 64, 65, 66, 67, 68, 69] (by decide +kernel) (by decide +kernel)
set_option maxRecDepth 20000 in
theorem gX6_ahead_X6_adds : GoodIn wsX6_ahead (wsV RX6 132 RX6 yX6_adds wsX6_adds) := goodIn_app (goodIn_of _ (by decide +kernel)) ggX6_ahead_X6_adds
theorem dX6_ahead_0 : decode cX6_ahead 0 = .ok (.aload_n 0, 1) := by decide +kernel
theorem dX6_ahead_1 : decode cX6_ahead 1 = .ok (.iconst 0, 1) := by decide +kernel
theorem dX6_ahead_2 : decode cX6_ahead 2 = .ok (.putfield 101, 3) := by decide +kernel
theorem dX6_ahead_5 : decode cX6_ahead 5 = .ok (.aload_n 0, 1) := by decide +kernel
theorem dX6_ahead_6 : decode cX6_ahead 6 = .ok (.iconst 0, 1) := by decide +kernel
theorem dX6_ahead_7 : decode cX6_ahead 7 = .ok (.putfield 105, 3) := by decide +kernel
theorem dX6_ahead_10 : decode cX6_ahead 10 = .ok (.aload_n 0, 1) := by decide +kernel
theorem dX6_ahead_11 : decode cX6_ahead 11 = .ok (.iload_n 1, 1) := by decide +kernel
theorem dX6_ahead_12 : decode cX6_ahead 12 = .ok (.invokevirtual 122, 3) := by decide +kernel
theorem dX6_ahead_15 : decode cX6_ahead 15 = .ok (.ifCond .eq 16, 3) := by decide +kernel
theorem dX6_ahead_18 : decode cX6_ahead 18 = .ok (.aload_n 0, 1) := by decide +kernel
theorem dX6_ahead_19 : decode cX6_ahead 19 = .ok (.iload_n 2, 1) := by decide +kernel
theorem dX6_ahead_20 : decode cX6_ahead 20 = .ok (.invokevirtual 122, 3) := by decide +kernel
theorem dX6_ahead_23 : decode cX6_ahead 23 = .ok (.ifCond .eq 8, 3) := by decide +kernel
theorem dX6_ahead_26 : decode cX6_ahead 26 = .ok (.iload_n 1, 1) := by decide +kernel
theorem dX6_ahead_27 : decode cX6_ahead 27 = .ok (.iload_n 2, 1) := by decide +kernel
theorem dX6_ahead_28 : decode cX6_ahead 28 = .ok (.if_icmp .ne 9, 3) := by decide +kernel
theorem dX6_ahead_31 : decode cX6_ahead 31 = .ok (.aload_n 0, 1) := by decide +kernel
theorem dX6_ahead_32 : decode cX6_ahead 32 = .ok (.iconst 1, 1) := by decide +kernel
theorem dX6_ahead_33 : decode cX6_ahead 33 = .ok (.invokevirtual 115, 3) := by decide +kernel
theorem dX6_ahead_36 : decode cX6_ahead 36 = .ok (.ireturn, 1) := by decide +kernel
theorem dX6_ahead_37 : decode cX6_ahead 37 = .ok (.iload 4, 2) := by decide +kernel
theorem dX6_ahead_39 : decode cX6_ahead 39 = .ok (.invokestatic 129, 3) := by decide +kernel
theorem dX6_ahead_42 : decode cX6_ahead 42 = .ok (.ifCond .eq 28, 3) := by decide +kernel
theorem dX6_ahead_45 : decode cX6_ahead 45 = .ok (.iload_n 3, 1) := by decide +kernel
theorem dX6_ahead_46 : decode cX6_ahead 46 = .ok (.ldc 136, 2) := by decide +kernel
theorem dX6_ahead_48 : decode cX6_ahead 48 = .ok (.if_icmp .lt 22, 3) := by decide +kernel
theorem dX6_ahead_51 : decode cX6_ahead 51 = .ok (.iload_n 3, 1) := by decide +kernel
theorem dX6_ahead_52 : decode cX6_ahead 52 = .ok (.ldc 114, 2) := by decide +kernel
theorem dX6_ahead_54 : decode cX6_ahead 54 = .ok (.if_icmp .gt 16, 3) := by decide +kernel
theorem dX6_ahead_57 : decode cX6_ahead 57 = .ok (.aload_n 0, 1) := by decide +kernel
theorem dX6_ahead_58 : decode cX6_ahead 58 = .ok (.iconst 1, 1) := by decide +kernel
theorem dX6_ahead_59 : decode cX6_ahead 59 = .ok (.iload_n 1, 1) := by decide +kernel
theorem dX6_ahead_60 : decode cX6_ahead 60 = .ok (.iload_n 2, 1) := by decide +kernel
theorem dX6_ahead_61 : decode cX6_ahead 61 = .ok (.iload_n 3, 1) := by decide +kernel
theorem dX6_ahead_62 : decode cX6_ahead 62 = .ok (.iload 4, 2) := by decide +kernel
theorem dX6_ahead_64 : decode cX6_ahead 64 = .ok (.invokevirtual 132, 3) := by decide +kernel
theorem dX6_ahead_67 : decode cX6_ahead 67 = .ok (.goto 8, 3) := by decide +kernel
theorem dX6_ahead_70 : decode cX6_ahead 70 = .ok (.aload_n 0, 1) := by decide +kernel
theorem dX6_ahead_71 : decode cX6_ahead 71 = .ok (.iconst 2, 1) := by decide +kernel
theorem dX6_ahead_72 : decode cX6_ahead 72 = .ok (.invokevirtual 115, 3) := by decide +kernel
theorem dX6_ahead_75 : decode cX6_ahead 75 = .ok (.ireturn, 1) := by decide +kernel
set_option maxRecDepth 20000 in
theorem ggX6_same_X6_isPlate : GoodIn wsX6_same wsX6_isPlate := goodIn_r _ [7, 8, 27, 28, 29, 30, 31, 32, 33, 34, 35, 36, 37, 38, 39, 40, 41, 42, 43, 44, 45, 46, 47, 48, 49, 50, 51, 52, 53, 54, 55, 56, 57, 58, 59, 60, 61, 62, 63, 64, 65, 66, 67] (by decide +kernel) (by decide +kernel)
set_option maxRecDepth 20000 in
theorem gX6_same_X6_isPlate : GoodIn wsX6_same (wsV RX6 122 RX6 yX6_isPlate wsX6_isPlate) := goodIn_app (goodIn_of _ (by decide +kernel)) ggX6_same_X6_isPlate
set_option maxRecDepth 20000 in
theorem ggX6_same_X6_refuse : GoodIn wsX6_same wsX6_refuse := goodIn_r _ [12, 2, 27, 28, 29, 30, 31, 32, 33, 34, 35, 36, 37, 38, 39, 40, 41, 42, 43, 44, 45, 46, 47, 48, 49, 50, 51, 52, 53, 54, 55, 56, 57, 58, 59, 60, 61, 62, 63, 64, 65, 66, 67] (by decide +kernel) (by decide +kernel)
set_option maxRecDepth 20000 in
theorem gX6_same_X6_refuse : GoodIn wsX6_same (wsV RX6 115 RX6 yX6_refuse wsX6_refuse) := goodIn_app (goodIn_of _ (by decide +kernel)) ggX6_same_X6_refuse
set_option maxRecDepth 20000 in
theorem ggX6_same_X6_isDay : GoodIn wsX6_same wsX6_isDay := goodIn_r _ [15] (by decide +kernel) (by decide +kernel)
set_option maxRecDepth 20000 in
theorem gX6_same_X6_isDay : GoodIn wsX6_same (va_wsS RX6 129 yX6_isDay wsX6_isDay) := goodIn_app (goodIn_of _ (by decide +kernel)) ggX6_same_X6_isDay
set_option maxRecDepth 20000 in
theorem ggX6_same_X6_adds : GoodIn wsX6_same wsX6_adds := goodIn_r _ [19, 20, 21, 22, 23, 24, 25, 26, 9, 10, 11, 6, 12, 2, 27, 28, 29, 30, 31, 32, 33, 34, 35, 36, 37, 38, 39, 40, 41, 42, 43, 44, 45, 46, 47, 48, 49, 50, 51, 52, 53, 54, 55, 56, 57, 58, 59, 60, 61, 62, 63, 64, 65, 66, 67] (by decide +kernel) (by decide +kernel)
set_option maxRecDepth 20000 in
theorem gX6_same_X6_adds : GoodIn wsX6_same (wsV RX6 132 RX6 yX6_adds wsX6_adds) := goodIn_app (goodIn_of _ (by decide +kernel)) ggX6_same_X6_adds
theorem dX6_same_0 : decode cX6_same 0 = .ok (.aload_n 0, 1) := by decide +kernel
theorem dX6_same_1 : decode cX6_same 1 = .ok (.iconst 0, 1) := by decide +kernel
theorem dX6_same_2 : decode cX6_same 2 = .ok (.putfield 101, 3) := by decide +kernel
theorem dX6_same_5 : decode cX6_same 5 = .ok (.aload_n 0, 1) := by decide +kernel
theorem dX6_same_6 : decode cX6_same 6 = .ok (.iconst 0, 1) := by decide +kernel
theorem dX6_same_7 : decode cX6_same 7 = .ok (.putfield 105, 3) := by decide +kernel
theorem dX6_same_10 : decode cX6_same 10 = .ok (.aload_n 0, 1) := by decide +kernel
theorem dX6_same_11 : decode cX6_same 11 = .ok (.iload_n 1, 1) := by decide +kernel
theorem dX6_same_12 : decode cX6_same 12 = .ok (.invokevirtual 122, 3) := by decide +kernel
theorem dX6_same_15 : decode cX6_same 15 = .ok (.ifCond .eq 16, 3) := by decide +kernel
theorem dX6_same_18 : decode cX6_same 18 = .ok (.aload_n 0, 1) := by decide +kernel
theorem dX6_same_19 : decode cX6_same 19 = .ok (.iload_n 2, 1) := by decide +kernel
theorem dX6_same_20 : decode cX6_same 20 = .ok (.invokevirtual 122, 3) := by decide +kernel
theorem dX6_same_23 : decode cX6_same 23 = .ok (.ifCond .eq 8, 3) := by decide +kernel
theorem dX6_same_26 : decode cX6_same 26 = .ok (.iload_n 1, 1) := by decide +kernel
theorem dX6_same_27 : decode cX6_same 27 = .ok (.iload_n 2, 1) := by decide +kernel
theorem dX6_same_28 : decode cX6_same 28 = .ok (.if_icmp .ne 9, 3) := by decide +kernel
theorem dX6_same_31 : decode cX6_same 31 = .ok (.aload_n 0, 1) := by decide +kernel
theorem dX6_same_32 : decode cX6_same 32 = .ok (.iconst 1, 1) := by decide +kernel
theorem dX6_same_33 : decode cX6_same 33 = .ok (.invokevirtual 115, 3) := by decide +kernel
theorem dX6_same_36 : decode cX6_same 36 = .ok (.ireturn, 1) := by decide +kernel
theorem dX6_same_37 : decode cX6_same 37 = .ok (.iload_n 3, 1) := by decide +kernel
theorem dX6_same_38 : decode cX6_same 38 = .ok (.invokestatic 129, 3) := by decide +kernel
theorem dX6_same_41 : decode cX6_same 41 = .ok (.ifCond .eq 15, 3) := by decide +kernel
theorem dX6_same_44 : decode cX6_same 44 = .ok (.aload_n 0, 1) := by decide +kernel
theorem dX6_same_45 : decode cX6_same 45 = .ok (.iconst 5, 1) := by decide +kernel
theorem dX6_same_46 : decode cX6_same 46 = .ok (.iload_n 1, 1) := by decide +kernel
theorem dX6_same_47 : decode cX6_same 47 = .ok (.iload_n 2, 1) := by decide +kernel
theorem dX6_same_48 : decode cX6_same 48 = .ok (.iconst 0, 1) := by decide +kernel
theorem dX6_same_49 : decode cX6_same 49 = .ok (.iload_n 3, 1) := by decide +kernel
theorem dX6_same_50 : decode cX6_same 50 = .ok (.invokevirtual 132, 3) := by decide +kernel
theorem dX6_same_53 : decode cX6_same 53 = .ok (.goto 8, 3) := by decide +kernel
theorem dX6_same_56 : decode cX6_same 56 = .ok (.aload_n 0, 1) := by decide +kernel
theorem dX6_same_57 : decode cX6_same 57 = .ok (.iconst 2, 1) := by decide +kernel
theorem dX6_same_58 : decode cX6_same 58 = .ok (.invokevirtual 115, 3) := by decide +kernel
theorem dX6_same_61 : decode cX6_same 61 = .ok (.ireturn, 1) := by decide +kernel
set_option maxRecDepth 20000 in
theorem ggX6_taken_X6_isPlate : GoodIn wsX6_taken wsX6_isPlate := goodIn_r _ [7, 8, 31, 32, 33, 34, 35, 36, 37, 38, 39, 40, 41, 42, 43, 44, 45, 46, 47, 48, 49, 50, 51, 52, 53, 54, 55, 56, 57, 58, 59, 60, 61, 62, 63, 64, 65, 66, 67, 68, 69, 70, 71] (by decide +kernel) (by decide +kernel)
set_option maxRecDepth 20000 in
theorem gX6_taken_X6_isPlate : GoodIn wsX6_taken (wsV RX6 122 RX6 yX6_isPlate wsX6_isPlate) := goodIn_app (goodIn_of _ (by decide +kernel)) ggX6_taken_X6_isPlate
set_option maxRecDepth 20000 in
theorem ggX6_taken_X6_refuse : GoodIn wsX6_taken wsX6_refuse := goodIn_r _ [12, 2, 31, 32, 33, 34, 35, 36, 37, 38, 39, 40, 41, 42, 43, 44, 45, 46, 47, 48, 49, 50, 51, 52, 53, 54, 55, 56, 57, 58, 59, 60, 61, 62, 63, 64, 65, 66, 67, 68, 69, 70, 71] (by decide +kernel) (by decide +kernel)
set_option maxRecDepth 20000 in
theorem gX6_taken_X6_refuse : GoodIn wsX6_taken (wsV RX6 115 RX6 yX6_refuse wsX6_refuse) := goodIn_app (goodIn_of _ (by decide +kernel)) ggX6_taken_X6_refuse
set_option maxRecDepth 20000 in
theorem ggX6_taken_X6_isTime : GoodIn wsX6_taken wsX6_isTime := goodIn_r _ [15, 16] (by decide +kernel) (by decide +kernel)
set_option maxRecDepth 20000 in
theorem gX6_taken_X6_isTime : GoodIn wsX6_taken (va_wsS RX6 137 yX6_isTime wsX6_isTime) := goodIn_app (goodIn_of _ (by decide +kernel)) ggX6_taken_X6_isTime
set_option maxRecDepth 20000 in
theorem ggX6_taken_X6_isDay : GoodIn wsX6_taken wsX6_isDay := goodIn_r _ [19] (by decide +kernel) (by decide +kernel)
set_option maxRecDepth 20000 in
theorem gX6_taken_X6_isDay : GoodIn wsX6_taken (va_wsS RX6 129 yX6_isDay wsX6_isDay) := goodIn_app (goodIn_of _ (by decide +kernel)) ggX6_taken_X6_isDay
set_option maxRecDepth 20000 in
theorem ggX6_taken_X6_adds : GoodIn wsX6_taken wsX6_adds := goodIn_r _ [23, 24, 25, 26, 27, 28, 29, 30, 9, 10, 11, 6, 12, 2, 31, 32, 33, 34, 35, 36, 37, 38, 39, 40, 41, 42, 43, 44, 45, 46, 47, 48, 49, 50, 51, 52, 53, 54, 55, 56, 57, 58, 59, 60, 61, 62, 63, 64, 65, 66, 67, 68, 69, 70, 71] (by decide +kernel) (by decide +kernel)
set_option maxRecDepth 20000 in
theorem gX6_taken_X6_adds : GoodIn wsX6_taken (wsV RX6 132 RX6 yX6_adds wsX6_adds) := goodIn_app (goodIn_of _ (by decide +kernel)) ggX6_taken_X6_adds
theorem dX6_taken_0 : decode cX6_taken 0 = .ok (.aload_n 0, 1) := by decide +kernel
theorem dX6_taken_1 : decode cX6_taken 1 = .ok (.iconst 0, 1) := by decide +kernel
theorem dX6_taken_2 : decode cX6_taken 2 = .ok (.putfield 101, 3) := by decide +kernel
theorem dX6_taken_5 : decode cX6_taken 5 = .ok (.aload_n 0, 1) := by decide +kernel
theorem dX6_taken_6 : decode cX6_taken 6 = .ok (.iconst 0, 1) := by decide +kernel
theorem dX6_taken_7 : decode cX6_taken 7 = .ok (.putfield 105, 3) := by decide +kernel
theorem dX6_taken_10 : decode cX6_taken 10 = .ok (.aload_n 0, 1) := by decide +kernel
theorem dX6_taken_11 : decode cX6_taken 11 = .ok (.iload_n 1, 1) := by decide +kernel
theorem dX6_taken_12 : decode cX6_taken 12 = .ok (.invokevirtual 122, 3) := by decide +kernel
theorem dX6_taken_15 : decode cX6_taken 15 = .ok (.ifCond .ne 9, 3) := by decide +kernel
theorem dX6_taken_18 : decode cX6_taken 18 = .ok (.aload_n 0, 1) := by decide +kernel
theorem dX6_taken_19 : decode cX6_taken 19 = .ok (.iconst 1, 1) := by decide +kernel
theorem dX6_taken_20 : decode cX6_taken 20 = .ok (.invokevirtual 115, 3) := by decide +kernel
theorem dX6_taken_23 : decode cX6_taken 23 = .ok (.ireturn, 1) := by decide +kernel
theorem dX6_taken_24 : decode cX6_taken 24 = .ok (.iload_n 2, 1) := by decide +kernel
theorem dX6_taken_25 : decode cX6_taken 25 = .ok (.invokestatic 137, 3) := by decide +kernel
theorem dX6_taken_28 : decode cX6_taken 28 = .ok (.ifCond .eq 36, 3) := by decide +kernel
end
section
theorem dX6_taken_31 : decode cX6_taken 31 = .ok (.iload_n 3, 1) := by decide +kernel
theorem dX6_taken_32 : decode cX6_taken 32 = .ok (.invokestatic 137, 3) := by decide +kernel
theorem dX6_taken_35 : decode cX6_taken 35 = .ok (.ifCond .eq 29, 3) := by decide +kernel
theorem dX6_taken_38 : decode cX6_taken 38 = .ok (.iload_n 2, 1) := by decide +kernel
theorem dX6_taken_39 : decode cX6_taken 39 = .ok (.iload_n 3, 1) := by decide +kernel
theorem dX6_taken_40 : decode cX6_taken 40 = .ok (.if_icmp .gt 24, 3) := by decide +kernel
theorem dX6_taken_43 : decode cX6_taken 43 = .ok (.iload 4, 2) := by decide +kernel
theorem dX6_taken_45 : decode cX6_taken 45 = .ok (.invokestatic 129, 3) := by decide +kernel
theorem dX6_taken_48 : decode cX6_taken 48 = .ok (.ifCond .eq 16, 3) := by decide +kernel
theorem dX6_taken_51 : decode cX6_taken 51 = .ok (.aload_n 0, 1) := by decide +kernel
theorem dX6_taken_52 : decode cX6_taken 52 = .ok (.iconst 2, 1) := by decide +kernel
theorem dX6_taken_53 : decode cX6_taken 53 = .ok (.iload_n 1, 1) := by decide +kernel
theorem dX6_taken_54 : decode cX6_taken 54 = .ok (.iload_n 2, 1) := by decide +kernel
theorem dX6_taken_55 : decode cX6_taken 55 = .ok (.iload_n 3, 1) := by decide +kernel
theorem dX6_taken_56 : decode cX6_taken 56 = .ok (.iload 4, 2) := by decide +kernel
theorem dX6_taken_58 : decode cX6_taken 58 = .ok (.invokevirtual 132, 3) := by decide +kernel
theorem dX6_taken_61 : decode cX6_taken 61 = .ok (.goto 8, 3) := by decide +kernel
theorem dX6_taken_64 : decode cX6_taken 64 = .ok (.aload_n 0, 1) := by decide +kernel
theorem dX6_taken_65 : decode cX6_taken 65 = .ok (.iconst 2, 1) := by decide +kernel
theorem dX6_taken_66 : decode cX6_taken 66 = .ok (.invokevirtual 115, 3) := by decide +kernel
theorem dX6_taken_69 : decode cX6_taken 69 = .ok (.ireturn, 1) := by decide +kernel
set_option maxRecDepth 20000 in
theorem ggX6_stood_X6_isMotif : GoodIn wsX6_stood wsX6_isMotif := goodIn_r _ [7, 8, 31, 32, 33, 34, 35, 36, 37, 38, 39, 40, 41, 42, 43, 44, 45, 46, 47, 48, 49, 50, 51, 52, 53, 54, 55, 56, 57, 58, 59, 60, 61, 62, 63, 64, 65, 66, 67, 68, 69, 70, 71] (by decide +kernel) (by decide +kernel)
set_option maxRecDepth 20000 in
theorem gX6_stood_X6_isMotif : GoodIn wsX6_stood (wsV RX6 126 RX6 yX6_isMotif wsX6_isMotif) := goodIn_app (goodIn_of _ (by decide +kernel)) ggX6_stood_X6_isMotif
set_option maxRecDepth 20000 in
theorem ggX6_stood_X6_refuse : GoodIn wsX6_stood wsX6_refuse := goodIn_r _ [12, 2, 31, 32, 33, 34, 35, 36, 37, 38, 39, 40, 41, 42, 43, 44, 45, 46, 47, 48, 49, 50, 51, 52, 53, 54, 55, 56, 57, 58, 59, 60, 61, 62, 63, 64, 65, 66, 67, 68, 69, 70, 71] (by decide +kernel) (by decide +kernel)
set_option maxRecDepth 20000 in
theorem gX6_stood_X6_refuse : GoodIn wsX6_stood (wsV RX6 115 RX6 yX6_refuse wsX6_refuse) := goodIn_app (goodIn_of _ (by decide +kernel)) ggX6_stood_X6_refuse
set_option maxRecDepth 20000 in
theorem ggX6_stood_X6_isTime : GoodIn wsX6_stood wsX6_isTime := goodIn_r _ [15, 16] (by decide +kernel) (by decide +kernel)
set_option maxRecDepth 20000 in
theorem gX6_stood_X6_isTime : GoodIn wsX6_stood (va_wsS RX6 137 yX6_isTime wsX6_isTime) := goodIn_app (goodIn_of _ (by decide +kernel)) ggX6_stood_X6_isTime
set_option maxRecDepth 20000 in
theorem ggX6_stood_X6_isDay : GoodIn wsX6_stood wsX6_isDay := goodIn_r _ [19] (by decide +kernel) (by decide +kernel)
set_option maxRecDepth 20000 in
theorem gX6_stood_X6_isDay : GoodIn wsX6_stood (va_wsS RX6 129 yX6_isDay wsX6_isDay) := goodIn_app (goodIn_of _ (by decide +kernel)) ggX6_stood_X6_isDay
set_option maxRecDepth 20000 in
theorem ggX6_stood_X6_adds : GoodIn wsX6_stood wsX6_adds := goodIn_r _ [23, 24, 25, 26, 27, 28, 29, 30, 9, 10, 11, 6, 12, 2, 31, 32, 33, 34, 35, 36, 37, 38, 39, 40, 41, 42, 43, 44, 45, 46, 47, 48, 49, 50, 51, 52, 53, 54, 55, 56, 57, 58, 59, 60, 61, 62, 63, 64, 65, 66, 67, 68, 69, 70, 71] (by decide +kernel) (by decide +kernel)
set_option maxRecDepth 20000 in
theorem gX6_stood_X6_adds : GoodIn wsX6_stood (wsV RX6 132 RX6 yX6_adds wsX6_adds) := goodIn_app (goodIn_of _ (by decide +kernel)) ggX6_stood_X6_adds
theorem dX6_stood_0 : decode cX6_stood 0 = .ok (.aload_n 0, 1) := by decide +kernel
theorem dX6_stood_1 : decode cX6_stood 1 = .ok (.iconst 0, 1) := by decide +kernel
theorem dX6_stood_2 : decode cX6_stood 2 = .ok (.putfield 101, 3) := by decide +kernel
theorem dX6_stood_5 : decode cX6_stood 5 = .ok (.aload_n 0, 1) := by decide +kernel
theorem dX6_stood_6 : decode cX6_stood 6 = .ok (.iconst 0, 1) := by decide +kernel
theorem dX6_stood_7 : decode cX6_stood 7 = .ok (.putfield 105, 3) := by decide +kernel
theorem dX6_stood_10 : decode cX6_stood 10 = .ok (.aload_n 0, 1) := by decide +kernel
theorem dX6_stood_11 : decode cX6_stood 11 = .ok (.iload_n 1, 1) := by decide +kernel
theorem dX6_stood_12 : decode cX6_stood 12 = .ok (.invokevirtual 126, 3) := by decide +kernel
theorem dX6_stood_15 : decode cX6_stood 15 = .ok (.ifCond .ne 9, 3) := by decide +kernel
theorem dX6_stood_18 : decode cX6_stood 18 = .ok (.aload_n 0, 1) := by decide +kernel
theorem dX6_stood_19 : decode cX6_stood 19 = .ok (.iconst 1, 1) := by decide +kernel
theorem dX6_stood_20 : decode cX6_stood 20 = .ok (.invokevirtual 115, 3) := by decide +kernel
theorem dX6_stood_23 : decode cX6_stood 23 = .ok (.ireturn, 1) := by decide +kernel
theorem dX6_stood_24 : decode cX6_stood 24 = .ok (.iload_n 3, 1) := by decide +kernel
theorem dX6_stood_25 : decode cX6_stood 25 = .ok (.invokestatic 137, 3) := by decide +kernel
theorem dX6_stood_28 : decode cX6_stood 28 = .ok (.ifCond .eq 47, 3) := by decide +kernel
theorem dX6_stood_31 : decode cX6_stood 31 = .ok (.iload 4, 2) := by decide +kernel
theorem dX6_stood_33 : decode cX6_stood 33 = .ok (.invokestatic 137, 3) := by decide +kernel
theorem dX6_stood_36 : decode cX6_stood 36 = .ok (.ifCond .eq 39, 3) := by decide +kernel
theorem dX6_stood_39 : decode cX6_stood 39 = .ok (.iload_n 3, 1) := by decide +kernel
theorem dX6_stood_40 : decode cX6_stood 40 = .ok (.iload 4, 2) := by decide +kernel
theorem dX6_stood_42 : decode cX6_stood 42 = .ok (.if_icmp .gt 33, 3) := by decide +kernel
theorem dX6_stood_45 : decode cX6_stood 45 = .ok (.iload 5, 2) := by decide +kernel
theorem dX6_stood_47 : decode cX6_stood 47 = .ok (.invokestatic 129, 3) := by decide +kernel
theorem dX6_stood_50 : decode cX6_stood 50 = .ok (.ifCond .eq 25, 3) := by decide +kernel
theorem dX6_stood_53 : decode cX6_stood 53 = .ok (.aload_n 0, 1) := by decide +kernel
theorem dX6_stood_54 : decode cX6_stood 54 = .ok (.iload_n 2, 1) := by decide +kernel
theorem dX6_stood_55 : decode cX6_stood 55 = .ok (.ifCond .eq 7, 3) := by decide +kernel
theorem dX6_stood_58 : decode cX6_stood 58 = .ok (.iconst 4, 1) := by decide +kernel
theorem dX6_stood_59 : decode cX6_stood 59 = .ok (.goto 4, 3) := by decide +kernel
theorem dX6_stood_62 : decode cX6_stood 62 = .ok (.iconst 3, 1) := by decide +kernel
theorem dX6_stood_63 : decode cX6_stood 63 = .ok (.iload_n 1, 1) := by decide +kernel
theorem dX6_stood_64 : decode cX6_stood 64 = .ok (.iload_n 3, 1) := by decide +kernel
theorem dX6_stood_65 : decode cX6_stood 65 = .ok (.iload 4, 2) := by decide +kernel
theorem dX6_stood_67 : decode cX6_stood 67 = .ok (.iload 5, 2) := by decide +kernel
theorem dX6_stood_69 : decode cX6_stood 69 = .ok (.invokevirtual 132, 3) := by decide +kernel
theorem dX6_stood_72 : decode cX6_stood 72 = .ok (.goto 8, 3) := by decide +kernel
theorem dX6_stood_75 : decode cX6_stood 75 = .ok (.aload_n 0, 1) := by decide +kernel
theorem dX6_stood_76 : decode cX6_stood 76 = .ok (.iconst 2, 1) := by decide +kernel
theorem dX6_stood_77 : decode cX6_stood 77 = .ok (.invokevirtual 115, 3) := by decide +kernel
theorem dX6_stood_80 : decode cX6_stood 80 = .ok (.ireturn, 1) := by decide +kernel
theorem dX6_isFact_0 : decode cX6_isFact 0 = .ok (.iload_n 1, 1) := by decide +kernel
theorem dX6_isFact_1 : decode cX6_isFact 1 = .ok (.ifCond .lt 15, 3) := by decide +kernel
theorem dX6_isFact_4 : decode cX6_isFact 4 = .ok (.iload_n 1, 1) := by decide +kernel
theorem dX6_isFact_5 : decode cX6_isFact 5 = .ok (.aload_n 0, 1) := by decide +kernel
theorem dX6_isFact_6 : decode cX6_isFact 6 = .ok (.getfield 119, 3) := by decide +kernel
theorem dX6_isFact_9 : decode cX6_isFact 9 = .ok (.if_icmp .ge 7, 3) := by decide +kernel
theorem dX6_isFact_12 : decode cX6_isFact 12 = .ok (.iconst 1, 1) := by decide +kernel
theorem dX6_isFact_13 : decode cX6_isFact 13 = .ok (.goto 4, 3) := by decide +kernel
theorem dX6_isFact_16 : decode cX6_isFact 16 = .ok (.iconst 0, 1) := by decide +kernel
theorem dX6_isFact_17 : decode cX6_isFact 17 = .ok (.ireturn, 1) := by decide +kernel
set_option maxRecDepth 20000 in
theorem ggX6_cross_X6_isFact : GoodIn wsX6_cross wsX6_isFact := goodIn_r _ [8, 9, 17, 18, 19, 20, 21, 22, 23, 24, 25, 26, 27, 28, 29, 30, 31, 32, 33, 34, 35, 36, 37, 38, 39, 40, 41, 42, 43, 44, 45, 46, 47, 48, 49, 50, 51, 52, 53, 54, 55, 56, 57] (by decide +kernel) (by decide +kernel)
set_option maxRecDepth 20000 in
theorem gX6_cross_X6_isFact : GoodIn wsX6_cross (wsV RX6 140 RX6 yX6_isFact wsX6_isFact) := goodIn_app (goodIn_of _ (by decide +kernel)) ggX6_cross_X6_isFact
set_option maxRecDepth 20000 in
theorem ggX6_cross_X6_no : GoodIn wsX6_cross wsX6_no := goodIn_r _ [13, 2, 17, 18, 19, 20, 21, 22, 23, 24, 25, 26, 27, 28, 29, 30, 31, 32, 33, 34, 35, 36, 37, 38, 39, 40, 41, 42, 43, 44, 45, 46, 47, 48, 49, 50, 51, 52, 53, 54, 55, 56, 57] (by decide +kernel) (by decide +kernel)
set_option maxRecDepth 20000 in
theorem gX6_cross_X6_no : GoodIn wsX6_cross (wsV RX6 143 RX6 yX6_no wsX6_no) := goodIn_app (goodIn_of _ (by decide +kernel)) ggX6_cross_X6_no
set_option maxRecDepth 20000 in
theorem ggX6_cross_X6_isDay : GoodIn wsX6_cross wsX6_isDay := goodIn_r _ [16] (by decide +kernel) (by decide +kernel)
set_option maxRecDepth 20000 in
theorem gX6_cross_X6_isDay : GoodIn wsX6_cross (va_wsS RX6 129 yX6_isDay wsX6_isDay) := goodIn_app (goodIn_of _ (by decide +kernel)) ggX6_cross_X6_isDay
theorem dX6_cross_0 : decode cX6_cross 0 = .ok (.aload_n 0, 1) := by decide +kernel
theorem dX6_cross_1 : decode cX6_cross 1 = .ok (.iconst 0, 1) := by decide +kernel
theorem dX6_cross_2 : decode cX6_cross 2 = .ok (.putfield 101, 3) := by decide +kernel
theorem dX6_cross_5 : decode cX6_cross 5 = .ok (.aload_n 0, 1) := by decide +kernel
theorem dX6_cross_6 : decode cX6_cross 6 = .ok (.iconst 0, 1) := by decide +kernel
theorem dX6_cross_7 : decode cX6_cross 7 = .ok (.putfield 105, 3) := by decide +kernel
theorem dX6_cross_10 : decode cX6_cross 10 = .ok (.aload_n 0, 1) := by decide +kernel
theorem dX6_cross_11 : decode cX6_cross 11 = .ok (.iload_n 1, 1) := by decide +kernel
theorem dX6_cross_12 : decode cX6_cross 12 = .ok (.invokevirtual 140, 3) := by decide +kernel
theorem dX6_cross_15 : decode cX6_cross 15 = .ok (.ifCond .ne 9, 3) := by decide +kernel
theorem dX6_cross_18 : decode cX6_cross 18 = .ok (.aload_n 0, 1) := by decide +kernel
theorem dX6_cross_19 : decode cX6_cross 19 = .ok (.iconst 1, 1) := by decide +kernel
theorem dX6_cross_20 : decode cX6_cross 20 = .ok (.invokevirtual 143, 3) := by decide +kernel
theorem dX6_cross_23 : decode cX6_cross 23 = .ok (.ireturn, 1) := by decide +kernel
theorem dX6_cross_24 : decode cX6_cross 24 = .ok (.iload_n 2, 1) := by decide +kernel
theorem dX6_cross_25 : decode cX6_cross 25 = .ok (.invokestatic 129, 3) := by decide +kernel
theorem dX6_cross_28 : decode cX6_cross 28 = .ok (.ifCond .ne 9, 3) := by decide +kernel
theorem dX6_cross_31 : decode cX6_cross 31 = .ok (.aload_n 0, 1) := by decide +kernel
theorem dX6_cross_32 : decode cX6_cross 32 = .ok (.iconst 2, 1) := by decide +kernel
theorem dX6_cross_33 : decode cX6_cross 33 = .ok (.invokevirtual 143, 3) := by decide +kernel
theorem dX6_cross_36 : decode cX6_cross 36 = .ok (.ireturn, 1) := by decide +kernel
theorem dX6_cross_37 : decode cX6_cross 37 = .ok (.aload_n 0, 1) := by decide +kernel
theorem dX6_cross_38 : decode cX6_cross 38 = .ok (.getfield 25, 3) := by decide +kernel
theorem dX6_cross_41 : decode cX6_cross 41 = .ok (.iload_n 1, 1) := by decide +kernel
theorem dX6_cross_42 : decode cX6_cross 42 = .ok (.iaload, 1) := by decide +kernel
theorem dX6_cross_43 : decode cX6_cross 43 = .ok (.ifCond .lt 9, 3) := by decide +kernel
theorem dX6_cross_46 : decode cX6_cross 46 = .ok (.aload_n 0, 1) := by decide +kernel
theorem dX6_cross_47 : decode cX6_cross 47 = .ok (.iconst 4, 1) := by decide +kernel
theorem dX6_cross_48 : decode cX6_cross 48 = .ok (.invokevirtual 143, 3) := by decide +kernel
theorem dX6_cross_51 : decode cX6_cross 51 = .ok (.ireturn, 1) := by decide +kernel
theorem dX6_cross_52 : decode cX6_cross 52 = .ok (.aload_n 0, 1) := by decide +kernel
theorem dX6_cross_53 : decode cX6_cross 53 = .ok (.getfield 25, 3) := by decide +kernel
theorem dX6_cross_56 : decode cX6_cross 56 = .ok (.iload_n 1, 1) := by decide +kernel
theorem dX6_cross_57 : decode cX6_cross 57 = .ok (.iload_n 2, 1) := by decide +kernel
theorem dX6_cross_58 : decode cX6_cross 58 = .ok (.iastore, 1) := by decide +kernel
theorem dX6_cross_59 : decode cX6_cross 59 = .ok (.iconst 1, 1) := by decide +kernel
theorem dX6_cross_60 : decode cX6_cross 60 = .ok (.ireturn, 1) := by decide +kernel
set_option maxRecDepth 20000 in
theorem ggX6_fact_X6_isFact : GoodIn wsX6_fact wsX6_isFact := goodIn_r _ [10, 11, 16, 17, 18, 19, 20, 21, 22, 23, 24, 25, 26, 27, 28, 29, 30, 31, 32, 33, 34, 35, 36, 37, 38, 39, 40, 41, 42, 43, 44, 45, 46, 47, 48, 49, 50, 51, 52, 53, 54, 55, 56] (by decide +kernel) (by decide +kernel)
set_option maxRecDepth 20000 in
theorem gX6_fact_X6_isFact : GoodIn wsX6_fact (wsV RX6 140 RX6 yX6_isFact wsX6_isFact) := goodIn_app (goodIn_of _ (by decide +kernel)) ggX6_fact_X6_isFact
set_option maxRecDepth 20000 in
theorem ggX6_fact_X6_refuse : GoodIn wsX6_fact wsX6_refuse := goodIn_r _ [15, 2, 16, 17, 18, 19, 20, 21, 22, 23, 24, 25, 26, 27, 28, 29, 30, 31, 32, 33, 34, 35, 36, 37, 38, 39, 40, 41, 42, 43, 44, 45, 46, 47, 48, 49, 50, 51, 52, 53, 54, 55, 56] (by decide +kernel) (by decide +kernel)
set_option maxRecDepth 20000 in
theorem gX6_fact_X6_refuse : GoodIn wsX6_fact (wsV RX6 115 RX6 yX6_refuse wsX6_refuse) := goodIn_app (goodIn_of _ (by decide +kernel)) ggX6_fact_X6_refuse
theorem dX6_fact_0 : decode cX6_fact 0 = .ok (.aload_n 0, 1) := by decide +kernel
theorem dX6_fact_1 : decode cX6_fact 1 = .ok (.iconst 0, 1) := by decide +kernel
theorem dX6_fact_2 : decode cX6_fact 2 = .ok (.putfield 101, 3) := by decide +kernel
theorem dX6_fact_5 : decode cX6_fact 5 = .ok (.aload_n 0, 1) := by decide +kernel
theorem dX6_fact_6 : decode cX6_fact 6 = .ok (.iconst 0, 1) := by decide +kernel
theorem dX6_fact_7 : decode cX6_fact 7 = .ok (.putfield 105, 3) := by decide +kernel
theorem dX6_fact_10 : decode cX6_fact 10 = .ok (.aload_n 0, 1) := by decide +kernel
theorem dX6_fact_11 : decode cX6_fact 11 = .ok (.iload_n 1, 1) := by decide +kernel
theorem dX6_fact_12 : decode cX6_fact 12 = .ok (.invokevirtual 140, 3) := by decide +kernel
theorem dX6_fact_15 : decode cX6_fact 15 = .ok (.ifCond .ne 9, 3) := by decide +kernel
theorem dX6_fact_18 : decode cX6_fact 18 = .ok (.aload_n 0, 1) := by decide +kernel
theorem dX6_fact_19 : decode cX6_fact 19 = .ok (.iconst 1, 1) := by decide +kernel
theorem dX6_fact_20 : decode cX6_fact 20 = .ok (.invokevirtual 115, 3) := by decide +kernel
theorem dX6_fact_23 : decode cX6_fact 23 = .ok (.ireturn, 1) := by decide +kernel
theorem dX6_fact_24 : decode cX6_fact 24 = .ok (.iload_n 2, 1) := by decide +kernel
theorem dX6_fact_25 : decode cX6_fact 25 = .ok (.tableswitch 68 0 3 #[31, 38, 45, 52], 31) := by decide +kernel
theorem dX6_fact_56 : decode cX6_fact 56 = .ok (.aload_n 0, 1) := by decide +kernel
theorem dX6_fact_57 : decode cX6_fact 57 = .ok (.getfield 7, 3) := by decide +kernel
theorem dX6_fact_60 : decode cX6_fact 60 = .ok (.iload_n 1, 1) := by decide +kernel
theorem dX6_fact_61 : decode cX6_fact 61 = .ok (.iaload, 1) := by decide +kernel
theorem dX6_fact_62 : decode cX6_fact 62 = .ok (.ireturn, 1) := by decide +kernel
theorem dX6_fact_63 : decode cX6_fact 63 = .ok (.aload_n 0, 1) := by decide +kernel
theorem dX6_fact_64 : decode cX6_fact 64 = .ok (.getfield 22, 3) := by decide +kernel
theorem dX6_fact_67 : decode cX6_fact 67 = .ok (.iload_n 1, 1) := by decide +kernel
theorem dX6_fact_68 : decode cX6_fact 68 = .ok (.iaload, 1) := by decide +kernel
theorem dX6_fact_69 : decode cX6_fact 69 = .ok (.ireturn, 1) := by decide +kernel
theorem dX6_fact_70 : decode cX6_fact 70 = .ok (.aload_n 0, 1) := by decide +kernel
theorem dX6_fact_71 : decode cX6_fact 71 = .ok (.getfield 25, 3) := by decide +kernel
theorem dX6_fact_74 : decode cX6_fact 74 = .ok (.iload_n 1, 1) := by decide +kernel
theorem dX6_fact_75 : decode cX6_fact 75 = .ok (.iaload, 1) := by decide +kernel
theorem dX6_fact_76 : decode cX6_fact 76 = .ok (.ireturn, 1) := by decide +kernel
theorem dX6_fact_77 : decode cX6_fact 77 = .ok (.aload_n 0, 1) := by decide +kernel
theorem dX6_fact_78 : decode cX6_fact 78 = .ok (.getfield 7, 3) := by decide +kernel
theorem dX6_fact_81 : decode cX6_fact 81 = .ok (.iload_n 1, 1) := by decide +kernel
theorem dX6_fact_82 : decode cX6_fact 82 = .ok (.iaload, 1) := by decide +kernel
theorem dX6_fact_83 : decode cX6_fact 83 = .ok (.iconst 1, 1) := by decide +kernel
theorem dX6_fact_84 : decode cX6_fact 84 = .ok (.if_icmp .ne 7, 3) := by decide +kernel
theorem dX6_fact_87 : decode cX6_fact 87 = .ok (.iconst 1, 1) := by decide +kernel
theorem dX6_fact_88 : decode cX6_fact 88 = .ok (.goto 4, 3) := by decide +kernel
theorem dX6_fact_91 : decode cX6_fact 91 = .ok (.iconst 2, 1) := by decide +kernel
theorem dX6_fact_92 : decode cX6_fact 92 = .ok (.ireturn, 1) := by decide +kernel
theorem dX6_fact_93 : decode cX6_fact 93 = .ok (.aload_n 0, 1) := by decide +kernel
theorem dX6_fact_94 : decode cX6_fact 94 = .ok (.iconst 2, 1) := by decide +kernel
theorem dX6_fact_95 : decode cX6_fact 95 = .ok (.invokevirtual 115, 3) := by decide +kernel
theorem dX6_fact_98 : decode cX6_fact 98 = .ok (.ireturn, 1) := by decide +kernel
theorem dX6_isKnown_0 : decode cX6_isKnown 0 = .ok (.aload_n 0, 1) := by decide +kernel
theorem dX6_isKnown_1 : decode cX6_isKnown 1 = .ok (.getfield 22, 3) := by decide +kernel
theorem dX6_isKnown_4 : decode cX6_isKnown 4 = .ok (.iload_n 1, 1) := by decide +kernel
theorem dX6_isKnown_5 : decode cX6_isKnown 5 = .ok (.iaload, 1) := by decide +kernel
theorem dX6_isKnown_6 : decode cX6_isKnown 6 = .ok (.iload_n 2, 1) := by decide +kernel
theorem dX6_isKnown_7 : decode cX6_isKnown 7 = .ok (.if_icmp .gt 26, 3) := by decide +kernel
theorem dX6_isKnown_10 : decode cX6_isKnown 10 = .ok (.aload_n 0, 1) := by decide +kernel
theorem dX6_isKnown_11 : decode cX6_isKnown 11 = .ok (.getfield 25, 3) := by decide +kernel
theorem dX6_isKnown_14 : decode cX6_isKnown 14 = .ok (.iload_n 1, 1) := by decide +kernel
theorem dX6_isKnown_15 : decode cX6_isKnown 15 = .ok (.iaload, 1) := by decide +kernel
theorem dX6_isKnown_16 : decode cX6_isKnown 16 = .ok (.ifCond .lt 13, 3) := by decide +kernel
theorem dX6_isKnown_19 : decode cX6_isKnown 19 = .ok (.aload_n 0, 1) := by decide +kernel
theorem dX6_isKnown_20 : decode cX6_isKnown 20 = .ok (.getfield 25, 3) := by decide +kernel
theorem dX6_isKnown_23 : decode cX6_isKnown 23 = .ok (.iload_n 1, 1) := by decide +kernel
theorem dX6_isKnown_24 : decode cX6_isKnown 24 = .ok (.iaload, 1) := by decide +kernel
theorem dX6_isKnown_25 : decode cX6_isKnown 25 = .ok (.iload_n 2, 1) := by decide +kernel
theorem dX6_isKnown_26 : decode cX6_isKnown 26 = .ok (.if_icmp .le 7, 3) := by decide +kernel
theorem dX6_isKnown_29 : decode cX6_isKnown 29 = .ok (.iconst 1, 1) := by decide +kernel
theorem dX6_isKnown_30 : decode cX6_isKnown 30 = .ok (.goto 4, 3) := by decide +kernel
theorem dX6_isKnown_33 : decode cX6_isKnown 33 = .ok (.iconst 0, 1) := by decide +kernel
theorem dX6_isKnown_34 : decode cX6_isKnown 34 = .ok (.ireturn, 1) := by decide +kernel
theorem dX6_placeOf_0 : decode cX6_placeOf 0 = .ok (.iconst 1, 1) := by decide +kernel
theorem dX6_placeOf_1 : decode cX6_placeOf 1 = .ok (.iload_n 0, 1) := by decide +kernel
theorem dX6_placeOf_2 : decode cX6_placeOf 2 = .ok (.iadd, 1) := by decide +kernel
theorem dX6_placeOf_3 : decode cX6_placeOf 3 = .ok (.ireturn, 1) := by decide +kernel
theorem dX6_begins_0 : decode cX6_begins 0 = .ok (.bipush 21, 2) := by decide +kernel
theorem dX6_begins_2 : decode cX6_begins 2 = .ok (.iconst 2, 1) := by decide +kernel
theorem dX6_begins_3 : decode cX6_begins 3 = .ok (.iload_n 0, 1) := by decide +kernel
theorem dX6_begins_4 : decode cX6_begins 4 = .ok (.imul, 1) := by decide +kernel
theorem dX6_begins_5 : decode cX6_begins 5 = .ok (.iadd, 1) := by decide +kernel
theorem dX6_begins_6 : decode cX6_begins 6 = .ok (.ireturn, 1) := by decide +kernel
theorem dX6_endsAt_0 : decode cX6_endsAt 0 = .ok (.bipush 22, 2) := by decide +kernel
theorem dX6_endsAt_2 : decode cX6_endsAt 2 = .ok (.iconst 2, 1) := by decide +kernel
theorem dX6_endsAt_3 : decode cX6_endsAt 3 = .ok (.iload_n 0, 1) := by decide +kernel
theorem dX6_endsAt_4 : decode cX6_endsAt 4 = .ok (.imul, 1) := by decide +kernel
theorem dX6_endsAt_5 : decode cX6_endsAt 5 = .ok (.iadd, 1) := by decide +kernel
theorem dX6_endsAt_6 : decode cX6_endsAt 6 = .ok (.ireturn, 1) := by decide +kernel
theorem dX6_way_0 : decode cX6_way 0 = .ok (.aload_n 0, 1) := by decide +kernel
theorem dX6_way_1 : decode cX6_way 1 = .ok (.getfield 28, 3) := by decide +kernel
theorem dX6_way_4 : decode cX6_way 4 = .ok (.aload_n 0, 1) := by decide +kernel
theorem dX6_way_5 : decode cX6_way 5 = .ok (.getfield 146, 3) := by decide +kernel
theorem dX6_way_8 : decode cX6_way 8 = .ok (.iload_n 1, 1) := by decide +kernel
theorem dX6_way_9 : decode cX6_way 9 = .ok (.iastore, 1) := by decide +kernel
theorem dX6_way_10 : decode cX6_way 10 = .ok (.aload_n 0, 1) := by decide +kernel
theorem dX6_way_11 : decode cX6_way 11 = .ok (.getfield 31, 3) := by decide +kernel
theorem dX6_way_14 : decode cX6_way 14 = .ok (.aload_n 0, 1) := by decide +kernel
theorem dX6_way_15 : decode cX6_way 15 = .ok (.getfield 146, 3) := by decide +kernel
theorem dX6_way_18 : decode cX6_way 18 = .ok (.iload_n 2, 1) := by decide +kernel
theorem dX6_way_19 : decode cX6_way 19 = .ok (.iastore, 1) := by decide +kernel
theorem dX6_way_20 : decode cX6_way 20 = .ok (.aload_n 0, 1) := by decide +kernel
theorem dX6_way_21 : decode cX6_way 21 = .ok (.getfield 34, 3) := by decide +kernel
theorem dX6_way_24 : decode cX6_way 24 = .ok (.aload_n 0, 1) := by decide +kernel
theorem dX6_way_25 : decode cX6_way 25 = .ok (.getfield 146, 3) := by decide +kernel
theorem dX6_way_28 : decode cX6_way 28 = .ok (.lload_n 3, 1) := by decide +kernel
theorem dX6_way_29 : decode cX6_way 29 = .ok (.lastore, 1) := by decide +kernel
theorem dX6_way_30 : decode cX6_way 30 = .ok (.aload_n 0, 1) := by decide +kernel
theorem dX6_way_31 : decode cX6_way 31 = .ok (.dup, 1) := by decide +kernel
theorem dX6_way_32 : decode cX6_way 32 = .ok (.getfield 146, 3) := by decide +kernel
theorem dX6_way_35 : decode cX6_way 35 = .ok (.iconst 1, 1) := by decide +kernel
theorem dX6_way_36 : decode cX6_way 36 = .ok (.iadd, 1) := by decide +kernel
theorem dX6_way_37 : decode cX6_way 37 = .ok (.putfield 146, 3) := by decide +kernel
theorem dX6_way_40 : decode cX6_way 40 = .ok (.return_, 1) := by decide +kernel
set_option maxRecDepth 20000 in
theorem ggX6_bound_X6_way : GoodIn wsX6_bound wsX6_way := goodIn_r _ [6, 7, 8, 9, 10, 11, 12, 13, 14, 15, 16, 17, 18, 19, 20, 21, 22, 23, 24, 25, 26, 27, 28, 29, 30, 31, 32, 33, 34, 35, 36, 37, 38, 39, 40, 41, 42, 43, 44, 45, 46, 47, 48, 49, 50, 51] (by decide +kernel) (by decide +kernel)
set_option maxRecDepth 20000 in
theorem gX6_bound_X6_way : GoodIn wsX6_bound (wsV RX6 149 RX6 yX6_way wsX6_way) := goodIn_app (goodIn_of _ (by decide +kernel)) ggX6_bound_X6_way
theorem dX6_bound_0 : decode cX6_bound 0 = .ok (.aload_n 0, 1) := by decide +kernel
theorem dX6_bound_1 : decode cX6_bound 1 = .ok (.iconst 0, 1) := by decide +kernel
theorem dX6_bound_2 : decode cX6_bound 2 = .ok (.iload_n 1, 1) := by decide +kernel
theorem dX6_bound_3 : decode cX6_bound 3 = .ok (.lconst 0, 1) := by decide +kernel
theorem dX6_bound_4 : decode cX6_bound 4 = .ok (.invokevirtual 149, 3) := by decide +kernel
theorem dX6_bound_7 : decode cX6_bound 7 = .ok (.aload_n 0, 1) := by decide +kernel
theorem dX6_bound_8 : decode cX6_bound 8 = .ok (.iload_n 1, 1) := by decide +kernel
theorem dX6_bound_9 : decode cX6_bound 9 = .ok (.iconst 0, 1) := by decide +kernel
theorem dX6_bound_10 : decode cX6_bound 10 = .ok (.ldc2_w 153, 3) := by decide +kernel
theorem dX6_bound_13 : decode cX6_bound 13 = .ok (.invokevirtual 149, 3) := by decide +kernel
theorem dX6_bound_16 : decode cX6_bound 16 = .ok (.return_, 1) := by decide +kernel
set_option maxRecDepth 20000 in
theorem ggX6_within_X6_way : GoodIn wsX6_within wsX6_way := goodIn_r _ [5, 6, 7, 8, 9, 10, 11, 12, 13, 14, 15, 16, 17, 18, 19, 20, 21, 22, 23, 24, 25, 26, 27, 28, 29, 30, 31, 32, 33, 34, 35, 36, 37, 38, 39, 40, 41, 42, 43, 44, 45, 46, 47, 48, 49, 50] (by decide +kernel) (by decide +kernel)
set_option maxRecDepth 20000 in
theorem gX6_within_X6_way : GoodIn wsX6_within (wsV RX6 149 RX6 yX6_way wsX6_way) := goodIn_app (goodIn_of _ (by decide +kernel)) ggX6_within_X6_way
theorem dX6_within_0 : decode cX6_within 0 = .ok (.aload_n 0, 1) := by decide +kernel
theorem dX6_within_1 : decode cX6_within 1 = .ok (.iconst 0, 1) := by decide +kernel
theorem dX6_within_2 : decode cX6_within 2 = .ok (.iload_n 1, 1) := by decide +kernel
theorem dX6_within_3 : decode cX6_within 3 = .ok (.iload_n 2, 1) := by decide +kernel
theorem dX6_within_4 : decode cX6_within 4 = .ok (.i2l, 1) := by decide +kernel
theorem dX6_within_5 : decode cX6_within 5 = .ok (.invokevirtual 149, 3) := by decide +kernel
theorem dX6_within_8 : decode cX6_within 8 = .ok (.aload_n 0, 1) := by decide +kernel
theorem dX6_within_9 : decode cX6_within 9 = .ok (.iload_n 1, 1) := by decide +kernel
theorem dX6_within_10 : decode cX6_within 10 = .ok (.iconst 0, 1) := by decide +kernel
theorem dX6_within_11 : decode cX6_within 11 = .ok (.iload_n 3, 1) := by decide +kernel
theorem dX6_within_12 : decode cX6_within 12 = .ok (.ineg, 1) := by decide +kernel
theorem dX6_within_13 : decode cX6_within 13 = .ok (.i2l, 1) := by decide +kernel
theorem dX6_within_14 : decode cX6_within 14 = .ok (.invokevirtual 149, 3) := by decide +kernel
theorem dX6_within_17 : decode cX6_within 17 = .ok (.return_, 1) := by decide +kernel
set_option maxRecDepth 20000 in
theorem ggX6_net_X6_placeOf : GoodIn wsX6_net wsX6_placeOf := goodIn_r _ [13] (by decide +kernel) (by decide +kernel)
set_option maxRecDepth 20000 in
theorem gX6_net_X6_placeOf : GoodIn wsX6_net (va_wsS RX6 155 yX6_placeOf wsX6_placeOf) := goodIn_app (goodIn_of _ (by decide +kernel)) ggX6_net_X6_placeOf
set_option maxRecDepth 20000 in
theorem ggX6_net_X6_bound : GoodIn wsX6_net wsX6_bound := goodIn_r _ [17, 18, 19, 20, 21, 12, 22, 23, 1, 24, 25, 42, 43, 44, 45, 46, 47, 48, 49, 50, 51, 52, 53, 54, 55, 56, 57, 58, 59, 60, 61, 62, 63, 64, 65, 66, 67, 68, 69, 70, 71, 72, 73, 74, 75, 76, 77, 78, 79, 80, 81, 82] (by decide +kernel) (by decide +kernel)
set_option maxRecDepth 20000 in
theorem gX6_net_X6_bound : GoodIn wsX6_net (wsV RX6 158 RX6 yX6_bound wsX6_bound) := goodIn_app (goodIn_of _ (by decide +kernel)) ggX6_net_X6_bound
set_option maxRecDepth 20000 in
theorem ggX6_net_X6_begins : GoodIn wsX6_net wsX6_begins := goodIn_r _ [28] (by decide +kernel) (by decide +kernel)
set_option maxRecDepth 20000 in
theorem gX6_net_X6_begins : GoodIn wsX6_net (va_wsS RX6 162 yX6_begins wsX6_begins) := goodIn_app (goodIn_of _ (by decide +kernel)) ggX6_net_X6_begins
set_option maxRecDepth 20000 in
theorem ggX6_net_X6_endsAt : GoodIn wsX6_net wsX6_endsAt := goodIn_r _ [31] (by decide +kernel) (by decide +kernel)
set_option maxRecDepth 20000 in
theorem gX6_net_X6_endsAt : GoodIn wsX6_net (va_wsS RX6 165 yX6_endsAt wsX6_endsAt) := goodIn_app (goodIn_of _ (by decide +kernel)) ggX6_net_X6_endsAt
set_option maxRecDepth 20000 in
theorem ggX6_net_X6_way : GoodIn wsX6_net wsX6_way := goodIn_r _ [22, 23, 1, 24, 25, 42, 43, 44, 45, 46, 47, 48, 49, 50, 51, 52, 53, 54, 55, 56, 57, 58, 59, 60, 61, 62, 63, 64, 65, 66, 67, 68, 69, 70, 71, 72, 73, 74, 75, 76, 77, 78, 79, 80, 81, 82] (by decide +kernel) (by decide +kernel)
set_option maxRecDepth 20000 in
theorem gX6_net_X6_way : GoodIn wsX6_net (wsV RX6 149 RX6 yX6_way wsX6_way) := goodIn_app (goodIn_of _ (by decide +kernel)) ggX6_net_X6_way
set_option maxRecDepth 20000 in
theorem ggX6_net_X6_isKnown : GoodIn wsX6_net wsX6_isKnown := goodIn_r _ [35, 36, 37, 42, 43, 44, 45, 46, 47, 48, 49, 50, 51, 52, 53, 54, 55, 56, 57, 58, 59, 60, 61, 62, 63, 64, 65, 66, 67, 68, 69, 70, 71, 72, 73, 74, 75, 76, 77, 78, 79, 80, 81, 82] (by decide +kernel) (by decide +kernel)
set_option maxRecDepth 20000 in
theorem gX6_net_X6_isKnown : GoodIn wsX6_net (wsV RX6 171 RX6 yX6_isKnown wsX6_isKnown) := goodIn_app (goodIn_of _ (by decide +kernel)) ggX6_net_X6_isKnown
set_option maxRecDepth 20000 in
theorem ggX6_net_X6_within : GoodIn wsX6_net wsX6_within := goodIn_r _ [41, 19, 20, 21, 12, 22, 23, 1, 24, 25, 42, 43, 44, 45, 46, 47, 48, 49, 50, 51, 52, 53, 54, 55, 56, 57, 58, 59, 60, 61, 62, 63, 64, 65, 66, 67, 68, 69, 70, 71, 72, 73, 74, 75, 76, 77, 78, 79, 80, 81, 82] (by decide +kernel) (by decide +kernel)
set_option maxRecDepth 20000 in
theorem gX6_net_X6_within : GoodIn wsX6_net (wsV RX6 175 RX6 yX6_within wsX6_within) := goodIn_app (goodIn_of _ (by decide +kernel)) ggX6_net_X6_within
theorem dX6_net_0 : decode cX6_net 0 = .ok (.aload_n 0, 1) := by decide +kernel
theorem dX6_net_1 : decode cX6_net 1 = .ok (.iconst 0, 1) := by decide +kernel
theorem dX6_net_2 : decode cX6_net 2 = .ok (.putfield 146, 3) := by decide +kernel
theorem dX6_net_5 : decode cX6_net 5 = .ok (.iconst 0, 1) := by decide +kernel
theorem dX6_net_6 : decode cX6_net 6 = .ok (.istore_n 3, 1) := by decide +kernel
theorem dX6_net_7 : decode cX6_net 7 = .ok (.iload_n 3, 1) := by decide +kernel
theorem dX6_net_8 : decode cX6_net 8 = .ok (.aload_n 0, 1) := by decide +kernel
theorem dX6_net_9 : decode cX6_net 9 = .ok (.getfield 108, 3) := by decide +kernel
theorem dX6_net_12 : decode cX6_net 12 = .ok (.if_icmp .ge 17, 3) := by decide +kernel
theorem dX6_net_15 : decode cX6_net 15 = .ok (.aload_n 0, 1) := by decide +kernel
theorem dX6_net_16 : decode cX6_net 16 = .ok (.iload_n 3, 1) := by decide +kernel
theorem dX6_net_17 : decode cX6_net 17 = .ok (.invokestatic 155, 3) := by decide +kernel
theorem dX6_net_20 : decode cX6_net 20 = .ok (.invokevirtual 158, 3) := by decide +kernel
theorem dX6_net_23 : decode cX6_net 23 = .ok (.iinc 3 1, 3) := by decide +kernel
theorem dX6_net_26 : decode cX6_net 26 = .ok (.goto (-19), 3) := by decide +kernel
theorem dX6_net_29 : decode cX6_net 29 = .ok (.iconst 0, 1) := by decide +kernel
theorem dX6_net_30 : decode cX6_net 30 = .ok (.istore_n 3, 1) := by decide +kernel
theorem dX6_net_31 : decode cX6_net 31 = .ok (.iload_n 3, 1) := by decide +kernel
theorem dX6_net_32 : decode cX6_net 32 = .ok (.aload_n 0, 1) := by decide +kernel
theorem dX6_net_33 : decode cX6_net 33 = .ok (.getfield 111, 3) := by decide +kernel
theorem dX6_net_36 : decode cX6_net 36 = .ok (.if_icmp .ge 38, 3) := by decide +kernel
theorem dX6_net_39 : decode cX6_net 39 = .ok (.aload_n 0, 1) := by decide +kernel
theorem dX6_net_40 : decode cX6_net 40 = .ok (.iload_n 3, 1) := by decide +kernel
theorem dX6_net_41 : decode cX6_net 41 = .ok (.invokestatic 162, 3) := by decide +kernel
theorem dX6_net_44 : decode cX6_net 44 = .ok (.invokevirtual 158, 3) := by decide +kernel
theorem dX6_net_47 : decode cX6_net 47 = .ok (.aload_n 0, 1) := by decide +kernel
theorem dX6_net_48 : decode cX6_net 48 = .ok (.iload_n 3, 1) := by decide +kernel
theorem dX6_net_49 : decode cX6_net 49 = .ok (.invokestatic 165, 3) := by decide +kernel
theorem dX6_net_52 : decode cX6_net 52 = .ok (.invokevirtual 158, 3) := by decide +kernel
theorem dX6_net_55 : decode cX6_net 55 = .ok (.aload_n 0, 1) := by decide +kernel
theorem dX6_net_56 : decode cX6_net 56 = .ok (.iload_n 3, 1) := by decide +kernel
theorem dX6_net_57 : decode cX6_net 57 = .ok (.invokestatic 162, 3) := by decide +kernel
theorem dX6_net_60 : decode cX6_net 60 = .ok (.iload_n 3, 1) := by decide +kernel
theorem dX6_net_61 : decode cX6_net 61 = .ok (.invokestatic 165, 3) := by decide +kernel
theorem dX6_net_64 : decode cX6_net 64 = .ok (.lconst 0, 1) := by decide +kernel
theorem dX6_net_65 : decode cX6_net 65 = .ok (.invokevirtual 149, 3) := by decide +kernel
theorem dX6_net_68 : decode cX6_net 68 = .ok (.iinc 3 1, 3) := by decide +kernel
theorem dX6_net_71 : decode cX6_net 71 = .ok (.goto (-40), 3) := by decide +kernel
theorem dX6_net_74 : decode cX6_net 74 = .ok (.aload_n 0, 1) := by decide +kernel
theorem dX6_net_75 : decode cX6_net 75 = .ok (.aload_n 0, 1) := by decide +kernel
theorem dX6_net_76 : decode cX6_net 76 = .ok (.getfield 146, 3) := by decide +kernel
theorem dX6_net_79 : decode cX6_net 79 = .ok (.putfield 168, 3) := by decide +kernel
theorem dX6_net_82 : decode cX6_net 82 = .ok (.iconst 0, 1) := by decide +kernel
theorem dX6_net_83 : decode cX6_net 83 = .ok (.istore_n 3, 1) := by decide +kernel
theorem dX6_net_84 : decode cX6_net 84 = .ok (.iload_n 3, 1) := by decide +kernel
theorem dX6_net_85 : decode cX6_net 85 = .ok (.aload_n 0, 1) := by decide +kernel
theorem dX6_net_86 : decode cX6_net 86 = .ok (.getfield 119, 3) := by decide +kernel
theorem dX6_net_89 : decode cX6_net 89 = .ok (.if_icmp .ge 228, 3) := by decide +kernel
theorem dX6_net_92 : decode cX6_net 92 = .ok (.aload_n 0, 1) := by decide +kernel
theorem dX6_net_93 : decode cX6_net 93 = .ok (.iload_n 3, 1) := by decide +kernel
theorem dX6_net_94 : decode cX6_net 94 = .ok (.iload_n 1, 1) := by decide +kernel
theorem dX6_net_95 : decode cX6_net 95 = .ok (.invokevirtual 171, 3) := by decide +kernel
theorem dX6_net_98 : decode cX6_net 98 = .ok (.ifCond .eq 213, 3) := by decide +kernel
theorem dX6_net_101 : decode cX6_net 101 = .ok (.iload_n 3, 1) := by decide +kernel
theorem dX6_net_102 : decode cX6_net 102 = .ok (.iload_n 2, 1) := by decide +kernel
theorem dX6_net_103 : decode cX6_net 103 = .ok (.if_icmp .ne 6, 3) := by decide +kernel
theorem dX6_net_106 : decode cX6_net 106 = .ok (.goto 205, 3) := by decide +kernel
theorem dX6_net_109 : decode cX6_net 109 = .ok (.aload_n 0, 1) := by decide +kernel
theorem dX6_net_110 : decode cX6_net 110 = .ok (.getfield 13, 3) := by decide +kernel
theorem dX6_net_113 : decode cX6_net 113 = .ok (.iload_n 3, 1) := by decide +kernel
theorem dX6_net_114 : decode cX6_net 114 = .ok (.iaload, 1) := by decide +kernel
theorem dX6_net_115 : decode cX6_net 115 = .ok (.istore 4, 2) := by decide +kernel
theorem dX6_net_117 : decode cX6_net 117 = .ok (.aload_n 0, 1) := by decide +kernel
theorem dX6_net_118 : decode cX6_net 118 = .ok (.getfield 16, 3) := by decide +kernel
theorem dX6_net_121 : decode cX6_net 121 = .ok (.iload_n 3, 1) := by decide +kernel
theorem dX6_net_122 : decode cX6_net 122 = .ok (.iaload, 1) := by decide +kernel
theorem dX6_net_123 : decode cX6_net 123 = .ok (.istore 5, 2) := by decide +kernel
theorem dX6_net_125 : decode cX6_net 125 = .ok (.aload_n 0, 1) := by decide +kernel
theorem dX6_net_126 : decode cX6_net 126 = .ok (.getfield 7, 3) := by decide +kernel
theorem dX6_net_129 : decode cX6_net 129 = .ok (.iload_n 3, 1) := by decide +kernel
theorem dX6_net_130 : decode cX6_net 130 = .ok (.iaload, 1) := by decide +kernel
theorem dX6_net_131 : decode cX6_net 131 = .ok (.tableswitch 150 0 4 #[33, 66, 90, 110, 130], 33) := by decide +kernel
theorem dX6_net_164 : decode cX6_net 164 = .ok (.aload_n 0, 1) := by decide +kernel
theorem dX6_net_165 : decode cX6_net 165 = .ok (.iload 5, 2) := by decide +kernel
theorem dX6_net_167 : decode cX6_net 167 = .ok (.invokestatic 162, 3) := by decide +kernel
theorem dX6_net_170 : decode cX6_net 170 = .ok (.iload 4, 2) := by decide +kernel
theorem dX6_net_172 : decode cX6_net 172 = .ok (.invokestatic 155, 3) := by decide +kernel
theorem dX6_net_175 : decode cX6_net 175 = .ok (.lconst 0, 1) := by decide +kernel
theorem dX6_net_176 : decode cX6_net 176 = .ok (.invokevirtual 149, 3) := by decide +kernel
theorem dX6_net_179 : decode cX6_net 179 = .ok (.aload_n 0, 1) := by decide +kernel
theorem dX6_net_180 : decode cX6_net 180 = .ok (.iload 4, 2) := by decide +kernel
theorem dX6_net_182 : decode cX6_net 182 = .ok (.invokestatic 155, 3) := by decide +kernel
theorem dX6_net_185 : decode cX6_net 185 = .ok (.iload 5, 2) := by decide +kernel
theorem dX6_net_187 : decode cX6_net 187 = .ok (.invokestatic 165, 3) := by decide +kernel
theorem dX6_net_190 : decode cX6_net 190 = .ok (.lconst 0, 1) := by decide +kernel
theorem dX6_net_191 : decode cX6_net 191 = .ok (.invokevirtual 149, 3) := by decide +kernel
theorem dX6_net_194 : decode cX6_net 194 = .ok (.goto 117, 3) := by decide +kernel
theorem dX6_net_197 : decode cX6_net 197 = .ok (.aload_n 0, 1) := by decide +kernel
theorem dX6_net_198 : decode cX6_net 198 = .ok (.iload 4, 2) := by decide +kernel
theorem dX6_net_200 : decode cX6_net 200 = .ok (.invokestatic 155, 3) := by decide +kernel
theorem dX6_net_203 : decode cX6_net 203 = .ok (.iload 5, 2) := by decide +kernel
theorem dX6_net_205 : decode cX6_net 205 = .ok (.invokestatic 155, 3) := by decide +kernel
theorem dX6_net_208 : decode cX6_net 208 = .ok (.aload_n 0, 1) := by decide +kernel
theorem dX6_net_209 : decode cX6_net 209 = .ok (.getfield 19, 3) := by decide +kernel
theorem dX6_net_212 : decode cX6_net 212 = .ok (.iload_n 3, 1) := by decide +kernel
theorem dX6_net_213 : decode cX6_net 213 = .ok (.iaload, 1) := by decide +kernel
theorem dX6_net_214 : decode cX6_net 214 = .ok (.i2l, 1) := by decide +kernel
theorem dX6_net_215 : decode cX6_net 215 = .ok (.invokevirtual 149, 3) := by decide +kernel
theorem dX6_net_218 : decode cX6_net 218 = .ok (.goto 93, 3) := by decide +kernel
theorem dX6_net_221 : decode cX6_net 221 = .ok (.aload_n 0, 1) := by decide +kernel
theorem dX6_net_222 : decode cX6_net 222 = .ok (.iload 4, 2) := by decide +kernel
theorem dX6_net_224 : decode cX6_net 224 = .ok (.invokestatic 155, 3) := by decide +kernel
theorem dX6_net_227 : decode cX6_net 227 = .ok (.iload 5, 2) := by decide +kernel
theorem dX6_net_229 : decode cX6_net 229 = .ok (.aload_n 0, 1) := by decide +kernel
theorem dX6_net_230 : decode cX6_net 230 = .ok (.getfield 19, 3) := by decide +kernel
theorem dX6_net_233 : decode cX6_net 233 = .ok (.iload_n 3, 1) := by decide +kernel
theorem dX6_net_234 : decode cX6_net 234 = .ok (.iaload, 1) := by decide +kernel
theorem dX6_net_235 : decode cX6_net 235 = .ok (.invokevirtual 175, 3) := by decide +kernel
theorem dX6_net_238 : decode cX6_net 238 = .ok (.goto 73, 3) := by decide +kernel
theorem dX6_net_241 : decode cX6_net 241 = .ok (.aload_n 0, 1) := by decide +kernel
theorem dX6_net_242 : decode cX6_net 242 = .ok (.iload 4, 2) := by decide +kernel
theorem dX6_net_244 : decode cX6_net 244 = .ok (.invokestatic 162, 3) := by decide +kernel
theorem dX6_net_247 : decode cX6_net 247 = .ok (.iload 5, 2) := by decide +kernel
theorem dX6_net_249 : decode cX6_net 249 = .ok (.aload_n 0, 1) := by decide +kernel
theorem dX6_net_250 : decode cX6_net 250 = .ok (.getfield 19, 3) := by decide +kernel
theorem dX6_net_253 : decode cX6_net 253 = .ok (.iload_n 3, 1) := by decide +kernel
theorem dX6_net_254 : decode cX6_net 254 = .ok (.iaload, 1) := by decide +kernel
theorem dX6_net_255 : decode cX6_net 255 = .ok (.invokevirtual 175, 3) := by decide +kernel
theorem dX6_net_258 : decode cX6_net 258 = .ok (.goto 53, 3) := by decide +kernel
theorem dX6_net_261 : decode cX6_net 261 = .ok (.aload_n 0, 1) := by decide +kernel
theorem dX6_net_262 : decode cX6_net 262 = .ok (.iload 4, 2) := by decide +kernel
theorem dX6_net_264 : decode cX6_net 264 = .ok (.invokestatic 165, 3) := by decide +kernel
theorem dX6_net_267 : decode cX6_net 267 = .ok (.iload 5, 2) := by decide +kernel
theorem dX6_net_269 : decode cX6_net 269 = .ok (.aload_n 0, 1) := by decide +kernel
theorem dX6_net_270 : decode cX6_net 270 = .ok (.getfield 19, 3) := by decide +kernel
theorem dX6_net_273 : decode cX6_net 273 = .ok (.iload_n 3, 1) := by decide +kernel
theorem dX6_net_274 : decode cX6_net 274 = .ok (.iaload, 1) := by decide +kernel
theorem dX6_net_275 : decode cX6_net 275 = .ok (.invokevirtual 175, 3) := by decide +kernel
theorem dX6_net_278 : decode cX6_net 278 = .ok (.goto 33, 3) := by decide +kernel
theorem dX6_net_281 : decode cX6_net 281 = .ok (.aload_n 0, 1) := by decide +kernel
theorem dX6_net_282 : decode cX6_net 282 = .ok (.iload 4, 2) := by decide +kernel
theorem dX6_net_284 : decode cX6_net 284 = .ok (.invokestatic 155, 3) := by decide +kernel
theorem dX6_net_287 : decode cX6_net 287 = .ok (.iload 5, 2) := by decide +kernel
theorem dX6_net_289 : decode cX6_net 289 = .ok (.invokestatic 155, 3) := by decide +kernel
theorem dX6_net_292 : decode cX6_net 292 = .ok (.lconst 0, 1) := by decide +kernel
theorem dX6_net_293 : decode cX6_net 293 = .ok (.invokevirtual 149, 3) := by decide +kernel
theorem dX6_net_296 : decode cX6_net 296 = .ok (.aload_n 0, 1) := by decide +kernel
theorem dX6_net_297 : decode cX6_net 297 = .ok (.iload 5, 2) := by decide +kernel
theorem dX6_net_299 : decode cX6_net 299 = .ok (.invokestatic 155, 3) := by decide +kernel
theorem dX6_net_302 : decode cX6_net 302 = .ok (.iload 4, 2) := by decide +kernel
theorem dX6_net_304 : decode cX6_net 304 = .ok (.invokestatic 155, 3) := by decide +kernel
theorem dX6_net_307 : decode cX6_net 307 = .ok (.lconst 0, 1) := by decide +kernel
theorem dX6_net_308 : decode cX6_net 308 = .ok (.invokevirtual 149, 3) := by decide +kernel
theorem dX6_net_311 : decode cX6_net 311 = .ok (.iinc 3 1, 3) := by decide +kernel
theorem dX6_net_314 : decode cX6_net 314 = .ok (.goto (-230), 3) := by decide +kernel
theorem dX6_net_317 : decode cX6_net 317 = .ok (.return_, 1) := by decide +kernel
theorem dX6_goes_0 : decode cX6_goes 0 = .ok (.iconst 0, 1) := by decide +kernel
theorem dX6_goes_1 : decode cX6_goes 1 = .ok (.istore_n 2, 1) := by decide +kernel
theorem dX6_goes_2 : decode cX6_goes 2 = .ok (.iload_n 2, 1) := by decide +kernel
theorem dX6_goes_3 : decode cX6_goes 3 = .ok (.bipush 53, 2) := by decide +kernel
theorem dX6_goes_5 : decode cX6_goes 5 = .ok (.if_icmp .ge 27, 3) := by decide +kernel
theorem dX6_goes_8 : decode cX6_goes 8 = .ok (.aload_n 0, 1) := by decide +kernel
theorem dX6_goes_9 : decode cX6_goes 9 = .ok (.getfield 38, 3) := by decide +kernel
theorem dX6_goes_12 : decode cX6_goes 12 = .ok (.iload_n 2, 1) := by decide +kernel
theorem dX6_goes_13 : decode cX6_goes 13 = .ok (.iload_n 2, 1) := by decide +kernel
theorem dX6_goes_14 : decode cX6_goes 14 = .ok (.iload_n 1, 1) := by decide +kernel
theorem dX6_goes_15 : decode cX6_goes 15 = .ok (.if_icmp .ne 7, 3) := by decide +kernel
theorem dX6_goes_18 : decode cX6_goes 18 = .ok (.lconst 0, 1) := by decide +kernel
theorem dX6_goes_19 : decode cX6_goes 19 = .ok (.goto 6, 3) := by decide +kernel
theorem dX6_goes_22 : decode cX6_goes 22 = .ok (.ldc2_w 179, 3) := by decide +kernel
theorem dX6_goes_25 : decode cX6_goes 25 = .ok (.lastore, 1) := by decide +kernel
theorem dX6_goes_26 : decode cX6_goes 26 = .ok (.iinc 2 1, 3) := by decide +kernel
theorem dX6_goes_29 : decode cX6_goes 29 = .ok (.goto (-27), 3) := by decide +kernel
theorem dX6_goes_32 : decode cX6_goes 32 = .ok (.iconst 1, 1) := by decide +kernel
theorem dX6_goes_33 : decode cX6_goes 33 = .ok (.istore_n 2, 1) := by decide +kernel
theorem dX6_goes_34 : decode cX6_goes 34 = .ok (.iconst 0, 1) := by decide +kernel
theorem dX6_goes_35 : decode cX6_goes 35 = .ok (.istore_n 3, 1) := by decide +kernel
theorem dX6_goes_36 : decode cX6_goes 36 = .ok (.iload_n 3, 1) := by decide +kernel
theorem dX6_goes_37 : decode cX6_goes 37 = .ok (.bipush 53, 2) := by decide +kernel
theorem dX6_goes_39 : decode cX6_goes 39 = .ok (.if_icmp .gt 125, 3) := by decide +kernel
theorem dX6_goes_42 : decode cX6_goes 42 = .ok (.iload_n 2, 1) := by decide +kernel
theorem dX6_goes_43 : decode cX6_goes 43 = .ok (.ifCond .eq 121, 3) := by decide +kernel
theorem dX6_goes_46 : decode cX6_goes 46 = .ok (.iconst 0, 1) := by decide +kernel
theorem dX6_goes_47 : decode cX6_goes 47 = .ok (.istore_n 2, 1) := by decide +kernel
theorem dX6_goes_48 : decode cX6_goes 48 = .ok (.iconst 0, 1) := by decide +kernel
theorem dX6_goes_49 : decode cX6_goes 49 = .ok (.istore 4, 2) := by decide +kernel
theorem dX6_goes_51 : decode cX6_goes 51 = .ok (.iload 4, 2) := by decide +kernel
theorem dX6_goes_53 : decode cX6_goes 53 = .ok (.aload_n 0, 1) := by decide +kernel
theorem dX6_goes_54 : decode cX6_goes 54 = .ok (.getfield 146, 3) := by decide +kernel
theorem dX6_goes_57 : decode cX6_goes 57 = .ok (.if_icmp .ge 101, 3) := by decide +kernel
theorem dX6_goes_60 : decode cX6_goes 60 = .ok (.aload_n 0, 1) := by decide +kernel
theorem dX6_goes_61 : decode cX6_goes 61 = .ok (.getfield 38, 3) := by decide +kernel
theorem dX6_goes_64 : decode cX6_goes 64 = .ok (.aload_n 0, 1) := by decide +kernel
theorem dX6_goes_65 : decode cX6_goes 65 = .ok (.getfield 28, 3) := by decide +kernel
theorem dX6_goes_68 : decode cX6_goes 68 = .ok (.iload 4, 2) := by decide +kernel
theorem dX6_goes_70 : decode cX6_goes 70 = .ok (.iaload, 1) := by decide +kernel
theorem dX6_goes_71 : decode cX6_goes 71 = .ok (.laload, 1) := by decide +kernel
theorem dX6_goes_72 : decode cX6_goes 72 = .ok (.ldc2_w 179, 3) := by decide +kernel
theorem dX6_goes_75 : decode cX6_goes 75 = .ok (.lcmp, 1) := by decide +kernel
theorem dX6_goes_76 : decode cX6_goes 76 = .ok (.ifCond .eq 76, 3) := by decide +kernel
theorem dX6_goes_79 : decode cX6_goes 79 = .ok (.aload_n 0, 1) := by decide +kernel
theorem dX6_goes_80 : decode cX6_goes 80 = .ok (.getfield 38, 3) := by decide +kernel
theorem dX6_goes_83 : decode cX6_goes 83 = .ok (.aload_n 0, 1) := by decide +kernel
theorem dX6_goes_84 : decode cX6_goes 84 = .ok (.getfield 28, 3) := by decide +kernel
theorem dX6_goes_87 : decode cX6_goes 87 = .ok (.iload 4, 2) := by decide +kernel
theorem dX6_goes_89 : decode cX6_goes 89 = .ok (.iaload, 1) := by decide +kernel
theorem dX6_goes_90 : decode cX6_goes 90 = .ok (.laload, 1) := by decide +kernel
theorem dX6_goes_91 : decode cX6_goes 91 = .ok (.aload_n 0, 1) := by decide +kernel
theorem dX6_goes_92 : decode cX6_goes 92 = .ok (.getfield 34, 3) := by decide +kernel
theorem dX6_goes_95 : decode cX6_goes 95 = .ok (.iload 4, 2) := by decide +kernel
theorem dX6_goes_97 : decode cX6_goes 97 = .ok (.laload, 1) := by decide +kernel
theorem dX6_goes_98 : decode cX6_goes 98 = .ok (.ladd, 1) := by decide +kernel
theorem dX6_goes_99 : decode cX6_goes 99 = .ok (.aload_n 0, 1) := by decide +kernel
theorem dX6_goes_100 : decode cX6_goes 100 = .ok (.getfield 38, 3) := by decide +kernel
theorem dX6_goes_103 : decode cX6_goes 103 = .ok (.aload_n 0, 1) := by decide +kernel
theorem dX6_goes_104 : decode cX6_goes 104 = .ok (.getfield 31, 3) := by decide +kernel
theorem dX6_goes_107 : decode cX6_goes 107 = .ok (.iload 4, 2) := by decide +kernel
theorem dX6_goes_109 : decode cX6_goes 109 = .ok (.iaload, 1) := by decide +kernel
theorem dX6_goes_110 : decode cX6_goes 110 = .ok (.laload, 1) := by decide +kernel
theorem dX6_goes_111 : decode cX6_goes 111 = .ok (.lcmp, 1) := by decide +kernel
theorem dX6_goes_112 : decode cX6_goes 112 = .ok (.ifCond .gt 6, 3) := by decide +kernel
theorem dX6_goes_115 : decode cX6_goes 115 = .ok (.goto 37, 3) := by decide +kernel
theorem dX6_goes_118 : decode cX6_goes 118 = .ok (.aload_n 0, 1) := by decide +kernel
theorem dX6_goes_119 : decode cX6_goes 119 = .ok (.getfield 38, 3) := by decide +kernel
theorem dX6_goes_122 : decode cX6_goes 122 = .ok (.aload_n 0, 1) := by decide +kernel
theorem dX6_goes_123 : decode cX6_goes 123 = .ok (.getfield 31, 3) := by decide +kernel
theorem dX6_goes_126 : decode cX6_goes 126 = .ok (.iload 4, 2) := by decide +kernel
theorem dX6_goes_128 : decode cX6_goes 128 = .ok (.iaload, 1) := by decide +kernel
theorem dX6_goes_129 : decode cX6_goes 129 = .ok (.aload_n 0, 1) := by decide +kernel
theorem dX6_goes_130 : decode cX6_goes 130 = .ok (.getfield 38, 3) := by decide +kernel
theorem dX6_goes_133 : decode cX6_goes 133 = .ok (.aload_n 0, 1) := by decide +kernel
theorem dX6_goes_134 : decode cX6_goes 134 = .ok (.getfield 28, 3) := by decide +kernel
theorem dX6_goes_137 : decode cX6_goes 137 = .ok (.iload 4, 2) := by decide +kernel
theorem dX6_goes_139 : decode cX6_goes 139 = .ok (.iaload, 1) := by decide +kernel
theorem dX6_goes_140 : decode cX6_goes 140 = .ok (.laload, 1) := by decide +kernel
theorem dX6_goes_141 : decode cX6_goes 141 = .ok (.aload_n 0, 1) := by decide +kernel
theorem dX6_goes_142 : decode cX6_goes 142 = .ok (.getfield 34, 3) := by decide +kernel
theorem dX6_goes_145 : decode cX6_goes 145 = .ok (.iload 4, 2) := by decide +kernel
theorem dX6_goes_147 : decode cX6_goes 147 = .ok (.laload, 1) := by decide +kernel
theorem dX6_goes_148 : decode cX6_goes 148 = .ok (.ladd, 1) := by decide +kernel
theorem dX6_goes_149 : decode cX6_goes 149 = .ok (.lastore, 1) := by decide +kernel
theorem dX6_goes_150 : decode cX6_goes 150 = .ok (.iconst 1, 1) := by decide +kernel
theorem dX6_goes_151 : decode cX6_goes 151 = .ok (.istore_n 2, 1) := by decide +kernel
theorem dX6_goes_152 : decode cX6_goes 152 = .ok (.iinc 4 1, 3) := by decide +kernel
theorem dX6_goes_155 : decode cX6_goes 155 = .ok (.goto (-104), 3) := by decide +kernel
theorem dX6_goes_158 : decode cX6_goes 158 = .ok (.iinc 3 1, 3) := by decide +kernel
theorem dX6_goes_161 : decode cX6_goes 161 = .ok (.goto (-125), 3) := by decide +kernel
theorem dX6_goes_164 : decode cX6_goes 164 = .ok (.iload_n 2, 1) := by decide +kernel
theorem dX6_goes_165 : decode cX6_goes 165 = .ok (.ifCond .ne 7, 3) := by decide +kernel
theorem dX6_goes_168 : decode cX6_goes 168 = .ok (.iconst 1, 1) := by decide +kernel
theorem dX6_goes_169 : decode cX6_goes 169 = .ok (.goto 4, 3) := by decide +kernel
theorem dX6_goes_172 : decode cX6_goes 172 = .ok (.iconst 0, 1) := by decide +kernel
theorem dX6_goes_173 : decode cX6_goes 173 = .ok (.ireturn, 1) := by decide +kernel
set_option maxRecDepth 20000 in
theorem ggX6_spanOf_X6_isDay : GoodIn wsX6_spanOf wsX6_isDay := goodIn_r _ [5] (by decide +kernel) (by decide +kernel)
set_option maxRecDepth 20000 in
theorem gX6_spanOf_X6_isDay : GoodIn wsX6_spanOf (va_wsS RX6 129 yX6_isDay wsX6_isDay) := goodIn_app (goodIn_of _ (by decide +kernel)) ggX6_spanOf_X6_isDay
set_option maxRecDepth 20000 in
theorem ggX6_spanOf_X6_refuse : GoodIn wsX6_spanOf wsX6_refuse := goodIn_r _ [9, 10, 60, 61, 62, 63, 64, 65, 66, 67, 68, 69, 70, 71, 72, 73, 74, 75, 76, 77, 78, 79, 80, 81, 82, 83, 84, 85, 86, 87, 88, 89, 90, 91, 92, 93, 94, 95, 96, 97, 98, 99, 100] (by decide +kernel) (by decide +kernel)
set_option maxRecDepth 20000 in
theorem gX6_spanOf_X6_refuse : GoodIn wsX6_spanOf (wsV RX6 115 RX6 yX6_refuse wsX6_refuse) := goodIn_app (goodIn_of _ (by decide +kernel)) ggX6_spanOf_X6_refuse
set_option maxRecDepth 20000 in
theorem ggX6_spanOf_X6_net : GoodIn wsX6_spanOf wsX6_net := goodIn_r _ [14, 15, 16, 17, 18, 19, 20, 21, 22, 23, 24, 25, 4, 26, 27, 28, 29, 30, 31, 32, 33, 34, 35, 36, 37, 38, 39, 40, 41, 42, 43, 44, 45, 46, 47, 48, 49, 50, 51, 52, 53, 54, 60, 61, 62, 63, 64, 65, 66, 67, 68, 69, 70, 71, 72, 73, 74, 75, 76, 77, 78, 79, 80, 81, 82, 83, 84, 85, 86, 87, 88, 89, 90, 91, 92, 93, 94, 95, 96, 97, 98, 99, 100] (by decide +kernel) (by decide +kernel)
set_option maxRecDepth 20000 in
theorem gX6_spanOf_X6_net : GoodIn wsX6_spanOf (wsV RX6 181 RX6 yX6_net wsX6_net) := goodIn_app (goodIn_of _ (by decide +kernel)) ggX6_spanOf_X6_net
set_option maxRecDepth 20000 in
theorem ggX6_spanOf_X6_goes : GoodIn wsX6_spanOf wsX6_goes := goodIn_r _ [58, 1, 59, 15, 36, 38, 37, 60, 61, 62, 63, 64, 65, 66, 67, 68, 69, 70, 71, 72, 73, 74, 75, 76, 77, 78, 79, 80, 81, 82, 83, 84, 85, 86, 87, 88, 89, 90, 91, 92, 93, 94, 95, 96, 97, 98, 99, 100] (by decide +kernel) (by decide +kernel)
set_option maxRecDepth 20000 in
theorem gX6_spanOf_X6_goes : GoodIn wsX6_spanOf (wsV RX6 185 RX6 yX6_goes wsX6_goes) := goodIn_app (goodIn_of _ (by decide +kernel)) ggX6_spanOf_X6_goes
theorem dX6_spanOf_0 : decode cX6_spanOf 0 = .ok (.iload_n 3, 1) := by decide +kernel
theorem dX6_spanOf_1 : decode cX6_spanOf 1 = .ok (.invokestatic 129, 3) := by decide +kernel
theorem dX6_spanOf_4 : decode cX6_spanOf 4 = .ok (.ifCond .ne 9, 3) := by decide +kernel
theorem dX6_spanOf_7 : decode cX6_spanOf 7 = .ok (.aload_n 0, 1) := by decide +kernel
theorem dX6_spanOf_8 : decode cX6_spanOf 8 = .ok (.iconst 2, 1) := by decide +kernel
theorem dX6_spanOf_9 : decode cX6_spanOf 9 = .ok (.invokevirtual 115, 3) := by decide +kernel
theorem dX6_spanOf_12 : decode cX6_spanOf 12 = .ok (.ireturn, 1) := by decide +kernel
theorem dX6_spanOf_13 : decode cX6_spanOf 13 = .ok (.aload_n 0, 1) := by decide +kernel
theorem dX6_spanOf_14 : decode cX6_spanOf 14 = .ok (.iload_n 3, 1) := by decide +kernel
theorem dX6_spanOf_15 : decode cX6_spanOf 15 = .ok (.iconst (-1), 1) := by decide +kernel
theorem dX6_spanOf_16 : decode cX6_spanOf 16 = .ok (.invokevirtual 181, 3) := by decide +kernel
theorem dX6_spanOf_19 : decode cX6_spanOf 19 = .ok (.aload_n 0, 1) := by decide +kernel
theorem dX6_spanOf_20 : decode cX6_spanOf 20 = .ok (.iconst 0, 1) := by decide +kernel
theorem dX6_spanOf_21 : decode cX6_spanOf 21 = .ok (.invokevirtual 185, 3) := by decide +kernel
theorem dX6_spanOf_24 : decode cX6_spanOf 24 = .ok (.ifCond .ne 9, 3) := by decide +kernel
theorem dX6_spanOf_27 : decode cX6_spanOf 27 = .ok (.aload_n 0, 1) := by decide +kernel
theorem dX6_spanOf_28 : decode cX6_spanOf 28 = .ok (.iconst 5, 1) := by decide +kernel
theorem dX6_spanOf_29 : decode cX6_spanOf 29 = .ok (.invokevirtual 115, 3) := by decide +kernel
theorem dX6_spanOf_32 : decode cX6_spanOf 32 = .ok (.ireturn, 1) := by decide +kernel
theorem dX6_spanOf_33 : decode cX6_spanOf 33 = .ok (.iload_n 2, 1) := by decide +kernel
theorem dX6_spanOf_34 : decode cX6_spanOf 34 = .ok (.ifCond .ne 11, 3) := by decide +kernel
theorem dX6_spanOf_37 : decode cX6_spanOf 37 = .ok (.aload_n 0, 1) := by decide +kernel
theorem dX6_spanOf_38 : decode cX6_spanOf 38 = .ok (.getfield 38, 3) := by decide +kernel
theorem dX6_spanOf_41 : decode cX6_spanOf 41 = .ok (.iload_n 1, 1) := by decide +kernel
theorem dX6_spanOf_42 : decode cX6_spanOf 42 = .ok (.laload, 1) := by decide +kernel
theorem dX6_spanOf_43 : decode cX6_spanOf 43 = .ok (.l2i, 1) := by decide +kernel
theorem dX6_spanOf_44 : decode cX6_spanOf 44 = .ok (.ireturn, 1) := by decide +kernel
theorem dX6_spanOf_45 : decode cX6_spanOf 45 = .ok (.aload_n 0, 1) := by decide +kernel
theorem dX6_spanOf_46 : decode cX6_spanOf 46 = .ok (.iload_n 1, 1) := by decide +kernel
theorem dX6_spanOf_47 : decode cX6_spanOf 47 = .ok (.invokevirtual 185, 3) := by decide +kernel
theorem dX6_spanOf_50 : decode cX6_spanOf 50 = .ok (.pop, 1) := by decide +kernel
theorem dX6_spanOf_51 : decode cX6_spanOf 51 = .ok (.aload_n 0, 1) := by decide +kernel
theorem dX6_spanOf_52 : decode cX6_spanOf 52 = .ok (.getfield 38, 3) := by decide +kernel
theorem dX6_spanOf_55 : decode cX6_spanOf 55 = .ok (.iconst 0, 1) := by decide +kernel
theorem dX6_spanOf_56 : decode cX6_spanOf 56 = .ok (.laload, 1) := by decide +kernel
theorem dX6_spanOf_57 : decode cX6_spanOf 57 = .ok (.lneg, 1) := by decide +kernel
theorem dX6_spanOf_58 : decode cX6_spanOf 58 = .ok (.l2i, 1) := by decide +kernel
theorem dX6_spanOf_59 : decode cX6_spanOf 59 = .ok (.ireturn, 1) := by decide +kernel
set_option maxRecDepth 20000 in
theorem ggX6_span_X6_isPlate : GoodIn wsX6_span wsX6_isPlate := goodIn_r _ [7, 8, 69, 70, 71, 72, 73, 74, 75, 76, 77, 78, 79, 80, 81, 82, 83, 84, 85, 86, 87, 88, 89, 90, 91, 92, 93, 94, 95, 96, 97, 98, 99, 100, 101, 102, 103, 104, 105, 106, 107, 108, 109] (by decide +kernel) (by decide +kernel)
set_option maxRecDepth 20000 in
theorem gX6_span_X6_isPlate : GoodIn wsX6_span (wsV RX6 122 RX6 yX6_isPlate wsX6_isPlate) := goodIn_app (goodIn_of _ (by decide +kernel)) ggX6_span_X6_isPlate
set_option maxRecDepth 20000 in
theorem ggX6_span_X6_placeOf : GoodIn wsX6_span wsX6_placeOf := goodIn_r _ [11] (by decide +kernel) (by decide +kernel)
set_option maxRecDepth 20000 in
theorem gX6_span_X6_placeOf : GoodIn wsX6_span (va_wsS RX6 155 yX6_placeOf wsX6_placeOf) := goodIn_app (goodIn_of _ (by decide +kernel)) ggX6_span_X6_placeOf
set_option maxRecDepth 20000 in
theorem ggX6_span_X6_spanOf : GoodIn wsX6_span wsX6_spanOf := goodIn_r _ [15, 16, 17, 18, 6, 19, 20, 21, 22, 23, 2, 24, 25, 26, 27, 28, 8, 29, 30, 31, 32, 33, 34, 35, 9, 10, 11, 36, 37, 38, 39, 40, 41, 42, 43, 44, 45, 46, 47, 48, 49, 50, 51, 52, 53, 54, 55, 56, 57, 58, 59, 60, 61, 62, 63, 64, 65, 66, 67, 68, 69, 70, 71, 72, 73, 74, 75, 76, 77, 78, 79, 80, 81, 82, 83, 84, 85, 86, 87, 88, 89, 90, 91, 92, 93, 94, 95, 96, 97, 98, 99, 100, 101, 102, 103, 104, 105, 106, 107, 108, 109] (by decide +kernel) (by decide +kernel)
set_option maxRecDepth 20000 in
theorem gX6_span_X6_spanOf : GoodIn wsX6_span (wsV RX6 188 RX6 yX6_spanOf wsX6_spanOf) := goodIn_app (goodIn_of _ (by decide +kernel)) ggX6_span_X6_spanOf
set_option maxRecDepth 20000 in
theorem ggX6_span_X6_refuse : GoodIn wsX6_span wsX6_refuse := goodIn_r _ [23, 2, 69, 70, 71, 72, 73, 74, 75, 76, 77, 78, 79, 80, 81, 82, 83, 84, 85, 86, 87, 88, 89, 90, 91, 92, 93, 94, 95, 96, 97, 98, 99, 100, 101, 102, 103, 104, 105, 106, 107, 108, 109] (by decide +kernel) (by decide +kernel)
set_option maxRecDepth 20000 in
theorem gX6_span_X6_refuse : GoodIn wsX6_span (wsV RX6 115 RX6 yX6_refuse wsX6_refuse) := goodIn_app (goodIn_of _ (by decide +kernel)) ggX6_span_X6_refuse
theorem dX6_span_0 : decode cX6_span 0 = .ok (.aload_n 0, 1) := by decide +kernel
theorem dX6_span_1 : decode cX6_span 1 = .ok (.iconst 0, 1) := by decide +kernel
theorem dX6_span_2 : decode cX6_span 2 = .ok (.putfield 101, 3) := by decide +kernel
theorem dX6_span_5 : decode cX6_span 5 = .ok (.aload_n 0, 1) := by decide +kernel
theorem dX6_span_6 : decode cX6_span 6 = .ok (.iconst 0, 1) := by decide +kernel
theorem dX6_span_7 : decode cX6_span 7 = .ok (.putfield 105, 3) := by decide +kernel
theorem dX6_span_10 : decode cX6_span 10 = .ok (.aload_n 0, 1) := by decide +kernel
theorem dX6_span_11 : decode cX6_span 11 = .ok (.iload_n 1, 1) := by decide +kernel
theorem dX6_span_12 : decode cX6_span 12 = .ok (.invokevirtual 122, 3) := by decide +kernel
theorem dX6_span_15 : decode cX6_span 15 = .ok (.ifCond .eq 16, 3) := by decide +kernel
theorem dX6_span_18 : decode cX6_span 18 = .ok (.aload_n 0, 1) := by decide +kernel
theorem dX6_span_19 : decode cX6_span 19 = .ok (.iload_n 1, 1) := by decide +kernel
theorem dX6_span_20 : decode cX6_span 20 = .ok (.invokestatic 155, 3) := by decide +kernel
theorem dX6_span_23 : decode cX6_span 23 = .ok (.iload_n 2, 1) := by decide +kernel
theorem dX6_span_24 : decode cX6_span 24 = .ok (.iload_n 3, 1) := by decide +kernel
theorem dX6_span_25 : decode cX6_span 25 = .ok (.invokevirtual 188, 3) := by decide +kernel
theorem dX6_span_28 : decode cX6_span 28 = .ok (.goto 8, 3) := by decide +kernel
theorem dX6_span_31 : decode cX6_span 31 = .ok (.aload_n 0, 1) := by decide +kernel
theorem dX6_span_32 : decode cX6_span 32 = .ok (.iconst 1, 1) := by decide +kernel
theorem dX6_span_33 : decode cX6_span 33 = .ok (.invokevirtual 115, 3) := by decide +kernel
theorem dX6_span_36 : decode cX6_span 36 = .ok (.ireturn, 1) := by decide +kernel
set_option maxRecDepth 20000 in
theorem ggX6_times_X6_isMotif : GoodIn wsX6_times wsX6_isMotif := goodIn_r _ [7, 8, 69, 70, 71, 72, 73, 74, 75, 76, 77, 78, 79, 80, 81, 82, 83, 84, 85, 86, 87, 88, 89, 90, 91, 92, 93, 94, 95, 96, 97, 98, 99, 100, 101, 102, 103, 104, 105, 106, 107, 108, 109] (by decide +kernel) (by decide +kernel)
set_option maxRecDepth 20000 in
theorem gX6_times_X6_isMotif : GoodIn wsX6_times (wsV RX6 126 RX6 yX6_isMotif wsX6_isMotif) := goodIn_app (goodIn_of _ (by decide +kernel)) ggX6_times_X6_isMotif
set_option maxRecDepth 20000 in
theorem ggX6_times_X6_endsAt : GoodIn wsX6_times wsX6_endsAt := goodIn_r _ [11] (by decide +kernel) (by decide +kernel)
set_option maxRecDepth 20000 in
theorem gX6_times_X6_endsAt : GoodIn wsX6_times (va_wsS RX6 165 yX6_endsAt wsX6_endsAt) := goodIn_app (goodIn_of _ (by decide +kernel)) ggX6_times_X6_endsAt
set_option maxRecDepth 20000 in
theorem ggX6_times_X6_begins : GoodIn wsX6_times wsX6_begins := goodIn_r _ [14] (by decide +kernel) (by decide +kernel)
set_option maxRecDepth 20000 in
theorem gX6_times_X6_begins : GoodIn wsX6_times (va_wsS RX6 162 yX6_begins wsX6_begins) := goodIn_app (goodIn_of _ (by decide +kernel)) ggX6_times_X6_begins
set_option maxRecDepth 20000 in
theorem ggX6_times_X6_spanOf : GoodIn wsX6_times wsX6_spanOf := goodIn_r _ [18, 19, 20, 21, 6, 22, 23, 24, 25, 26, 2, 27, 28, 29, 30, 31, 32, 8, 33, 34, 35, 36, 37, 38, 39, 40, 41, 42, 43, 44, 45, 46, 47, 48, 49, 50, 51, 52, 53, 12, 13, 14, 9, 10, 11, 54, 55, 56, 57, 58, 59, 60, 61, 62, 63, 64, 65, 66, 67, 68, 69, 70, 71, 72, 73, 74, 75, 76, 77, 78, 79, 80, 81, 82, 83, 84, 85, 86, 87, 88, 89, 90, 91, 92, 93, 94, 95, 96, 97, 98, 99, 100, 101, 102, 103, 104, 105, 106, 107, 108, 109] (by decide +kernel) (by decide +kernel)
set_option maxRecDepth 20000 in
theorem gX6_times_X6_spanOf : GoodIn wsX6_times (wsV RX6 188 RX6 yX6_spanOf wsX6_spanOf) := goodIn_app (goodIn_of _ (by decide +kernel)) ggX6_times_X6_spanOf
set_option maxRecDepth 20000 in
theorem ggX6_times_X6_refuse : GoodIn wsX6_times wsX6_refuse := goodIn_r _ [26, 2, 69, 70, 71, 72, 73, 74, 75, 76, 77, 78, 79, 80, 81, 82, 83, 84, 85, 86, 87, 88, 89, 90, 91, 92, 93, 94, 95, 96, 97, 98, 99, 100, 101, 102, 103, 104, 105, 106, 107, 108, 109] (by decide +kernel) (by decide +kernel)
set_option maxRecDepth 20000 in
theorem gX6_times_X6_refuse : GoodIn wsX6_times (wsV RX6 115 RX6 yX6_refuse wsX6_refuse) := goodIn_app (goodIn_of _ (by decide +kernel)) ggX6_times_X6_refuse
theorem dX6_times_0 : decode cX6_times 0 = .ok (.aload_n 0, 1) := by decide +kernel
theorem dX6_times_1 : decode cX6_times 1 = .ok (.iconst 0, 1) := by decide +kernel
theorem dX6_times_2 : decode cX6_times 2 = .ok (.putfield 101, 3) := by decide +kernel
theorem dX6_times_5 : decode cX6_times 5 = .ok (.aload_n 0, 1) := by decide +kernel
theorem dX6_times_6 : decode cX6_times 6 = .ok (.iconst 0, 1) := by decide +kernel
theorem dX6_times_7 : decode cX6_times 7 = .ok (.putfield 105, 3) := by decide +kernel
theorem dX6_times_10 : decode cX6_times 10 = .ok (.aload_n 0, 1) := by decide +kernel
theorem dX6_times_11 : decode cX6_times 11 = .ok (.iload_n 1, 1) := by decide +kernel
theorem dX6_times_12 : decode cX6_times 12 = .ok (.invokevirtual 126, 3) := by decide +kernel
theorem dX6_times_15 : decode cX6_times 15 = .ok (.ifCond .eq 28, 3) := by decide +kernel
theorem dX6_times_18 : decode cX6_times 18 = .ok (.aload_n 0, 1) := by decide +kernel
theorem dX6_times_19 : decode cX6_times 19 = .ok (.iload_n 2, 1) := by decide +kernel
theorem dX6_times_20 : decode cX6_times 20 = .ok (.ifCond .eq 10, 3) := by decide +kernel
theorem dX6_times_23 : decode cX6_times 23 = .ok (.iload_n 1, 1) := by decide +kernel
theorem dX6_times_24 : decode cX6_times 24 = .ok (.invokestatic 165, 3) := by decide +kernel
theorem dX6_times_27 : decode cX6_times 27 = .ok (.goto 7, 3) := by decide +kernel
theorem dX6_times_30 : decode cX6_times 30 = .ok (.iload_n 1, 1) := by decide +kernel
theorem dX6_times_31 : decode cX6_times 31 = .ok (.invokestatic 162, 3) := by decide +kernel
theorem dX6_times_34 : decode cX6_times 34 = .ok (.iload_n 3, 1) := by decide +kernel
theorem dX6_times_35 : decode cX6_times 35 = .ok (.iload 4, 2) := by decide +kernel
theorem dX6_times_37 : decode cX6_times 37 = .ok (.invokevirtual 188, 3) := by decide +kernel
theorem dX6_times_40 : decode cX6_times 40 = .ok (.goto 8, 3) := by decide +kernel
theorem dX6_times_43 : decode cX6_times 43 = .ok (.aload_n 0, 1) := by decide +kernel
theorem dX6_times_44 : decode cX6_times 44 = .ok (.iconst 1, 1) := by decide +kernel
theorem dX6_times_45 : decode cX6_times 45 = .ok (.invokevirtual 115, 3) := by decide +kernel
theorem dX6_times_48 : decode cX6_times 48 = .ok (.ireturn, 1) := by decide +kernel
set_option maxRecDepth 20000 in
theorem ggX6_quarrel_X6_isDay : GoodIn wsX6_quarrel wsX6_isDay := goodIn_r _ [11] (by decide +kernel) (by decide +kernel)
set_option maxRecDepth 20000 in
theorem gX6_quarrel_X6_isDay : GoodIn wsX6_quarrel (va_wsS RX6 129 yX6_isDay wsX6_isDay) := goodIn_app (goodIn_of _ (by decide +kernel)) ggX6_quarrel_X6_isDay
set_option maxRecDepth 20000 in
theorem ggX6_quarrel_X6_refuse : GoodIn wsX6_quarrel wsX6_refuse := goodIn_r _ [15, 2, 71, 72, 73, 74, 75, 76, 77, 78, 79, 80, 81, 82, 83, 84, 85, 86, 87, 88, 89, 90, 91, 92, 93, 94, 95, 96, 97, 98, 99, 100, 101, 102, 103, 104, 105, 106, 107, 108, 109, 110, 111] (by decide +kernel) (by decide +kernel)
set_option maxRecDepth 20000 in
theorem gX6_quarrel_X6_refuse : GoodIn wsX6_quarrel (wsV RX6 115 RX6 yX6_refuse wsX6_refuse) := goodIn_app (goodIn_of _ (by decide +kernel)) ggX6_quarrel_X6_refuse
set_option maxRecDepth 20000 in
theorem ggX6_quarrel_X6_net : GoodIn wsX6_quarrel wsX6_net := goodIn_r _ [19, 3, 20, 21, 4, 22, 23, 24, 25, 26, 27, 28, 10, 29, 30, 31, 32, 33, 34, 35, 36, 37, 38, 39, 40, 41, 42, 43, 44, 45, 46, 47, 48, 49, 50, 51, 52, 53, 54, 55, 56, 57, 71, 72, 73, 74, 75, 76, 77, 78, 79, 80, 81, 82, 83, 84, 85, 86, 87, 88, 89, 90, 91, 92, 93, 94, 95, 96, 97, 98, 99, 100, 101, 102, 103, 104, 105, 106, 107, 108, 109, 110, 111] (by decide +kernel) (by decide +kernel)
set_option maxRecDepth 20000 in
theorem gX6_quarrel_X6_net : GoodIn wsX6_quarrel (wsV RX6 181 RX6 yX6_net wsX6_net) := goodIn_app (goodIn_of _ (by decide +kernel)) ggX6_quarrel_X6_net
set_option maxRecDepth 20000 in
theorem ggX6_quarrel_X6_goes : GoodIn wsX6_quarrel wsX6_goes := goodIn_r _ [61, 6, 62, 3, 39, 41, 40, 71, 72, 73, 74, 75, 76, 77, 78, 79, 80, 81, 82, 83, 84, 85, 86, 87, 88, 89, 90, 91, 92, 93, 94, 95, 96, 97, 98, 99, 100, 101, 102, 103, 104, 105, 106, 107, 108, 109, 110, 111] (by decide +kernel) (by decide +kernel)
set_option maxRecDepth 20000 in
theorem gX6_quarrel_X6_goes : GoodIn wsX6_quarrel (wsV RX6 185 RX6 yX6_goes wsX6_goes) := goodIn_app (goodIn_of _ (by decide +kernel)) ggX6_quarrel_X6_goes
set_option maxRecDepth 20000 in
theorem ggX6_quarrel_X6_longer : GoodIn wsX6_quarrel wsX6_longer := goodIn_r _ [66, 6, 62, 4, 3, 7, 39, 41, 5, 40, 67, 68, 69, 70, 71, 72, 73, 74, 75, 76, 77, 78, 79, 80, 81, 82, 83, 84, 85, 86, 87, 88, 89, 90, 91, 92, 93, 94, 95, 96, 97, 98, 99, 100, 101, 102, 103, 104, 105, 106, 107, 108, 109, 110, 111] (by decide +kernel) (by decide +kernel)
set_option maxRecDepth 20000 in
theorem gX6_quarrel_X6_longer : GoodIn wsX6_quarrel (wsV RX6 192 RX6 yX6_longer wsX6_longer) := goodIn_app (goodIn_of _ (by decide +kernel)) ggX6_quarrel_X6_longer
theorem dX6_quarrel_0 : decode cX6_quarrel 0 = .ok (.aload_n 0, 1) := by decide +kernel
theorem dX6_quarrel_1 : decode cX6_quarrel 1 = .ok (.iconst 0, 1) := by decide +kernel
theorem dX6_quarrel_2 : decode cX6_quarrel 2 = .ok (.putfield 101, 3) := by decide +kernel
theorem dX6_quarrel_5 : decode cX6_quarrel 5 = .ok (.aload_n 0, 1) := by decide +kernel
theorem dX6_quarrel_6 : decode cX6_quarrel 6 = .ok (.iconst 0, 1) := by decide +kernel
theorem dX6_quarrel_7 : decode cX6_quarrel 7 = .ok (.putfield 105, 3) := by decide +kernel
theorem dX6_quarrel_10 : decode cX6_quarrel 10 = .ok (.iload_n 1, 1) := by decide +kernel
theorem dX6_quarrel_11 : decode cX6_quarrel 11 = .ok (.invokestatic 129, 3) := by decide +kernel
theorem dX6_quarrel_14 : decode cX6_quarrel 14 = .ok (.ifCond .ne 9, 3) := by decide +kernel
theorem dX6_quarrel_17 : decode cX6_quarrel 17 = .ok (.aload_n 0, 1) := by decide +kernel
theorem dX6_quarrel_18 : decode cX6_quarrel 18 = .ok (.iconst 2, 1) := by decide +kernel
theorem dX6_quarrel_19 : decode cX6_quarrel 19 = .ok (.invokevirtual 115, 3) := by decide +kernel
theorem dX6_quarrel_22 : decode cX6_quarrel 22 = .ok (.ireturn, 1) := by decide +kernel
theorem dX6_quarrel_23 : decode cX6_quarrel 23 = .ok (.aload_n 0, 1) := by decide +kernel
theorem dX6_quarrel_24 : decode cX6_quarrel 24 = .ok (.iload_n 1, 1) := by decide +kernel
theorem dX6_quarrel_25 : decode cX6_quarrel 25 = .ok (.iconst (-1), 1) := by decide +kernel
theorem dX6_quarrel_26 : decode cX6_quarrel 26 = .ok (.invokevirtual 181, 3) := by decide +kernel
theorem dX6_quarrel_29 : decode cX6_quarrel 29 = .ok (.aload_n 0, 1) := by decide +kernel
theorem dX6_quarrel_30 : decode cX6_quarrel 30 = .ok (.iconst 0, 1) := by decide +kernel
theorem dX6_quarrel_31 : decode cX6_quarrel 31 = .ok (.invokevirtual 185, 3) := by decide +kernel
theorem dX6_quarrel_34 : decode cX6_quarrel 34 = .ok (.ifCond .eq 10, 3) := by decide +kernel
theorem dX6_quarrel_37 : decode cX6_quarrel 37 = .ok (.aload_n 0, 1) := by decide +kernel
theorem dX6_quarrel_38 : decode cX6_quarrel 38 = .ok (.bipush 6, 2) := by decide +kernel
theorem dX6_quarrel_40 : decode cX6_quarrel 40 = .ok (.invokevirtual 115, 3) := by decide +kernel
theorem dX6_quarrel_43 : decode cX6_quarrel 43 = .ok (.ireturn, 1) := by decide +kernel
theorem dX6_quarrel_44 : decode cX6_quarrel 44 = .ok (.aload_n 0, 1) := by decide +kernel
theorem dX6_quarrel_45 : decode cX6_quarrel 45 = .ok (.getfield 146, 3) := by decide +kernel
theorem dX6_quarrel_48 : decode cX6_quarrel 48 = .ok (.istore_n 2, 1) := by decide +kernel
theorem dX6_quarrel_49 : decode cX6_quarrel 49 = .ok (.aload_n 0, 1) := by decide +kernel
theorem dX6_quarrel_50 : decode cX6_quarrel 50 = .ok (.aload_n 0, 1) := by decide +kernel
theorem dX6_quarrel_51 : decode cX6_quarrel 51 = .ok (.getfield 168, 3) := by decide +kernel
theorem dX6_quarrel_54 : decode cX6_quarrel 54 = .ok (.putfield 146, 3) := by decide +kernel
theorem dX6_quarrel_57 : decode cX6_quarrel 57 = .ok (.iconst 0, 1) := by decide +kernel
theorem dX6_quarrel_58 : decode cX6_quarrel 58 = .ok (.istore_n 3, 1) := by decide +kernel
theorem dX6_quarrel_59 : decode cX6_quarrel 59 = .ok (.iload_n 3, 1) := by decide +kernel
theorem dX6_quarrel_60 : decode cX6_quarrel 60 = .ok (.bipush 53, 2) := by decide +kernel
theorem dX6_quarrel_62 : decode cX6_quarrel 62 = .ok (.if_icmp .ge 69, 3) := by decide +kernel
theorem dX6_quarrel_65 : decode cX6_quarrel 65 = .ok (.aload_n 0, 1) := by decide +kernel
theorem dX6_quarrel_66 : decode cX6_quarrel 66 = .ok (.iload_n 3, 1) := by decide +kernel
theorem dX6_quarrel_67 : decode cX6_quarrel 67 = .ok (.invokevirtual 185, 3) := by decide +kernel
theorem dX6_quarrel_70 : decode cX6_quarrel 70 = .ok (.pop, 1) := by decide +kernel
theorem dX6_quarrel_71 : decode cX6_quarrel 71 = .ok (.iconst 0, 1) := by decide +kernel
theorem dX6_quarrel_72 : decode cX6_quarrel 72 = .ok (.istore 4, 2) := by decide +kernel
theorem dX6_quarrel_74 : decode cX6_quarrel 74 = .ok (.iload 4, 2) := by decide +kernel
theorem dX6_quarrel_76 : decode cX6_quarrel 76 = .ok (.bipush 53, 2) := by decide +kernel
theorem dX6_quarrel_78 : decode cX6_quarrel 78 = .ok (.if_icmp .ge 47, 3) := by decide +kernel
theorem dX6_quarrel_81 : decode cX6_quarrel 81 = .ok (.aload_n 0, 1) := by decide +kernel
theorem dX6_quarrel_82 : decode cX6_quarrel 82 = .ok (.getfield 41, 3) := by decide +kernel
theorem dX6_quarrel_85 : decode cX6_quarrel 85 = .ok (.bipush 53, 2) := by decide +kernel
theorem dX6_quarrel_87 : decode cX6_quarrel 87 = .ok (.iload_n 3, 1) := by decide +kernel
theorem dX6_quarrel_88 : decode cX6_quarrel 88 = .ok (.imul, 1) := by decide +kernel
theorem dX6_quarrel_89 : decode cX6_quarrel 89 = .ok (.iload 4, 2) := by decide +kernel
theorem dX6_quarrel_91 : decode cX6_quarrel 91 = .ok (.iadd, 1) := by decide +kernel
theorem dX6_quarrel_92 : decode cX6_quarrel 92 = .ok (.aload_n 0, 1) := by decide +kernel
theorem dX6_quarrel_93 : decode cX6_quarrel 93 = .ok (.getfield 38, 3) := by decide +kernel
theorem dX6_quarrel_96 : decode cX6_quarrel 96 = .ok (.iload 4, 2) := by decide +kernel
theorem dX6_quarrel_98 : decode cX6_quarrel 98 = .ok (.laload, 1) := by decide +kernel
theorem dX6_quarrel_99 : decode cX6_quarrel 99 = .ok (.lastore, 1) := by decide +kernel
theorem dX6_quarrel_100 : decode cX6_quarrel 100 = .ok (.aload_n 0, 1) := by decide +kernel
theorem dX6_quarrel_101 : decode cX6_quarrel 101 = .ok (.getfield 44, 3) := by decide +kernel
theorem dX6_quarrel_104 : decode cX6_quarrel 104 = .ok (.bipush 53, 2) := by decide +kernel
theorem dX6_quarrel_106 : decode cX6_quarrel 106 = .ok (.iload_n 3, 1) := by decide +kernel
theorem dX6_quarrel_107 : decode cX6_quarrel 107 = .ok (.imul, 1) := by decide +kernel
theorem dX6_quarrel_108 : decode cX6_quarrel 108 = .ok (.iload 4, 2) := by decide +kernel
theorem dX6_quarrel_110 : decode cX6_quarrel 110 = .ok (.iadd, 1) := by decide +kernel
theorem dX6_quarrel_111 : decode cX6_quarrel 111 = .ok (.aload_n 0, 1) := by decide +kernel
theorem dX6_quarrel_112 : decode cX6_quarrel 112 = .ok (.getfield 38, 3) := by decide +kernel
theorem dX6_quarrel_115 : decode cX6_quarrel 115 = .ok (.iload 4, 2) := by decide +kernel
theorem dX6_quarrel_117 : decode cX6_quarrel 117 = .ok (.laload, 1) := by decide +kernel
theorem dX6_quarrel_118 : decode cX6_quarrel 118 = .ok (.lastore, 1) := by decide +kernel
theorem dX6_quarrel_119 : decode cX6_quarrel 119 = .ok (.iinc 4 1, 3) := by decide +kernel
theorem dX6_quarrel_122 : decode cX6_quarrel 122 = .ok (.goto (-48), 3) := by decide +kernel
theorem dX6_quarrel_125 : decode cX6_quarrel 125 = .ok (.iinc 3 1, 3) := by decide +kernel
theorem dX6_quarrel_128 : decode cX6_quarrel 128 = .ok (.goto (-69), 3) := by decide +kernel
theorem dX6_quarrel_131 : decode cX6_quarrel 131 = .ok (.aload_n 0, 1) := by decide +kernel
theorem dX6_quarrel_132 : decode cX6_quarrel 132 = .ok (.iload_n 2, 1) := by decide +kernel
theorem dX6_quarrel_133 : decode cX6_quarrel 133 = .ok (.putfield 146, 3) := by decide +kernel
theorem dX6_quarrel_136 : decode cX6_quarrel 136 = .ok (.iconst 1, 1) := by decide +kernel
theorem dX6_quarrel_137 : decode cX6_quarrel 137 = .ok (.istore_n 3, 1) := by decide +kernel
theorem dX6_quarrel_138 : decode cX6_quarrel 138 = .ok (.iload_n 3, 1) := by decide +kernel
theorem dX6_quarrel_139 : decode cX6_quarrel 139 = .ok (.bipush 54, 2) := by decide +kernel
theorem dX6_quarrel_141 : decode cX6_quarrel 141 = .ok (.if_icmp .gt 71, 3) := by decide +kernel
theorem dX6_quarrel_144 : decode cX6_quarrel 144 = .ok (.iconst 0, 1) := by decide +kernel
theorem dX6_quarrel_145 : decode cX6_quarrel 145 = .ok (.istore 4, 2) := by decide +kernel
theorem dX6_quarrel_147 : decode cX6_quarrel 147 = .ok (.iconst 0, 1) := by decide +kernel
theorem dX6_quarrel_148 : decode cX6_quarrel 148 = .ok (.istore 5, 2) := by decide +kernel
theorem dX6_quarrel_150 : decode cX6_quarrel 150 = .ok (.iload 5, 2) := by decide +kernel
theorem dX6_quarrel_152 : decode cX6_quarrel 152 = .ok (.bipush 53, 2) := by decide +kernel
theorem dX6_quarrel_154 : decode cX6_quarrel 154 = .ok (.if_icmp .ge 45, 3) := by decide +kernel
theorem dX6_quarrel_157 : decode cX6_quarrel 157 = .ok (.iload 4, 2) := by decide +kernel
theorem dX6_quarrel_159 : decode cX6_quarrel 159 = .ok (.ifCond .ne 40, 3) := by decide +kernel
theorem dX6_quarrel_162 : decode cX6_quarrel 162 = .ok (.aload_n 0, 1) := by decide +kernel
theorem dX6_quarrel_163 : decode cX6_quarrel 163 = .ok (.iload 5, 2) := by decide +kernel
theorem dX6_quarrel_165 : decode cX6_quarrel 165 = .ok (.invokevirtual 192, 3) := by decide +kernel
theorem dX6_quarrel_168 : decode cX6_quarrel 168 = .ok (.aload_n 0, 1) := by decide +kernel
theorem dX6_quarrel_169 : decode cX6_quarrel 169 = .ok (.getfield 44, 3) := by decide +kernel
theorem dX6_quarrel_172 : decode cX6_quarrel 172 = .ok (.bipush 53, 2) := by decide +kernel
theorem dX6_quarrel_174 : decode cX6_quarrel 174 = .ok (.iload 5, 2) := by decide +kernel
theorem dX6_quarrel_176 : decode cX6_quarrel 176 = .ok (.imul, 1) := by decide +kernel
theorem dX6_quarrel_177 : decode cX6_quarrel 177 = .ok (.iload 5, 2) := by decide +kernel
theorem dX6_quarrel_179 : decode cX6_quarrel 179 = .ok (.iadd, 1) := by decide +kernel
theorem dX6_quarrel_180 : decode cX6_quarrel 180 = .ok (.laload, 1) := by decide +kernel
theorem dX6_quarrel_181 : decode cX6_quarrel 181 = .ok (.lconst 0, 1) := by decide +kernel
theorem dX6_quarrel_182 : decode cX6_quarrel 182 = .ok (.lcmp, 1) := by decide +kernel
theorem dX6_quarrel_183 : decode cX6_quarrel 183 = .ok (.ifCond .le 7, 3) := by decide +kernel
theorem dX6_quarrel_186 : decode cX6_quarrel 186 = .ok (.iconst 1, 1) := by decide +kernel
theorem dX6_quarrel_187 : decode cX6_quarrel 187 = .ok (.goto 4, 3) := by decide +kernel
theorem dX6_quarrel_190 : decode cX6_quarrel 190 = .ok (.iconst 0, 1) := by decide +kernel
theorem dX6_quarrel_191 : decode cX6_quarrel 191 = .ok (.istore 4, 2) := by decide +kernel
theorem dX6_quarrel_193 : decode cX6_quarrel 193 = .ok (.iinc 5 1, 3) := by decide +kernel
theorem dX6_quarrel_196 : decode cX6_quarrel 196 = .ok (.goto (-46), 3) := by decide +kernel
theorem dX6_quarrel_199 : decode cX6_quarrel 199 = .ok (.iload 4, 2) := by decide +kernel
theorem dX6_quarrel_201 : decode cX6_quarrel 201 = .ok (.ifCond .eq 5, 3) := by decide +kernel
theorem dX6_quarrel_204 : decode cX6_quarrel 204 = .ok (.iload_n 3, 1) := by decide +kernel
theorem dX6_quarrel_205 : decode cX6_quarrel 205 = .ok (.ireturn, 1) := by decide +kernel
theorem dX6_quarrel_206 : decode cX6_quarrel 206 = .ok (.iinc 3 1, 3) := by decide +kernel
theorem dX6_quarrel_209 : decode cX6_quarrel 209 = .ok (.goto (-71), 3) := by decide +kernel
theorem dX6_quarrel_212 : decode cX6_quarrel 212 = .ok (.aload_n 0, 1) := by decide +kernel
theorem dX6_quarrel_213 : decode cX6_quarrel 213 = .ok (.bipush 6, 2) := by decide +kernel
theorem dX6_quarrel_215 : decode cX6_quarrel 215 = .ok (.invokevirtual 115, 3) := by decide +kernel
theorem dX6_quarrel_218 : decode cX6_quarrel 218 = .ok (.ireturn, 1) := by decide +kernel
theorem dX6_longer_0 : decode cX6_longer 0 = .ok (.iconst 0, 1) := by decide +kernel
theorem dX6_longer_1 : decode cX6_longer 1 = .ok (.istore_n 2, 1) := by decide +kernel
theorem dX6_longer_2 : decode cX6_longer 2 = .ok (.iload_n 2, 1) := by decide +kernel
theorem dX6_longer_3 : decode cX6_longer 3 = .ok (.bipush 53, 2) := by decide +kernel
theorem dX6_longer_5 : decode cX6_longer 5 = .ok (.if_icmp .ge 18, 3) := by decide +kernel
theorem dX6_longer_8 : decode cX6_longer 8 = .ok (.aload_n 0, 1) := by decide +kernel
theorem dX6_longer_9 : decode cX6_longer 9 = .ok (.getfield 38, 3) := by decide +kernel
theorem dX6_longer_12 : decode cX6_longer 12 = .ok (.iload_n 2, 1) := by decide +kernel
theorem dX6_longer_13 : decode cX6_longer 13 = .ok (.ldc2_w 179, 3) := by decide +kernel
theorem dX6_longer_16 : decode cX6_longer 16 = .ok (.lastore, 1) := by decide +kernel
theorem dX6_longer_17 : decode cX6_longer 17 = .ok (.iinc 2 1, 3) := by decide +kernel
theorem dX6_longer_20 : decode cX6_longer 20 = .ok (.goto (-18), 3) := by decide +kernel
theorem dX6_longer_23 : decode cX6_longer 23 = .ok (.aload_n 0, 1) := by decide +kernel
theorem dX6_longer_24 : decode cX6_longer 24 = .ok (.getfield 168, 3) := by decide +kernel
theorem dX6_longer_27 : decode cX6_longer 27 = .ok (.istore_n 2, 1) := by decide +kernel
theorem dX6_longer_28 : decode cX6_longer 28 = .ok (.iload_n 2, 1) := by decide +kernel
theorem dX6_longer_29 : decode cX6_longer 29 = .ok (.aload_n 0, 1) := by decide +kernel
theorem dX6_longer_30 : decode cX6_longer 30 = .ok (.getfield 146, 3) := by decide +kernel
theorem dX6_longer_33 : decode cX6_longer 33 = .ok (.if_icmp .ge 122, 3) := by decide +kernel
theorem dX6_longer_36 : decode cX6_longer 36 = .ok (.aload_n 0, 1) := by decide +kernel
theorem dX6_longer_37 : decode cX6_longer 37 = .ok (.getfield 44, 3) := by decide +kernel
theorem dX6_longer_40 : decode cX6_longer 40 = .ok (.bipush 53, 2) := by decide +kernel
theorem dX6_longer_42 : decode cX6_longer 42 = .ok (.iload_n 1, 1) := by decide +kernel
theorem dX6_longer_43 : decode cX6_longer 43 = .ok (.imul, 1) := by decide +kernel
theorem dX6_longer_44 : decode cX6_longer 44 = .ok (.aload_n 0, 1) := by decide +kernel
theorem dX6_longer_45 : decode cX6_longer 45 = .ok (.getfield 28, 3) := by decide +kernel
theorem dX6_longer_48 : decode cX6_longer 48 = .ok (.iload_n 2, 1) := by decide +kernel
theorem dX6_longer_49 : decode cX6_longer 49 = .ok (.iaload, 1) := by decide +kernel
theorem dX6_longer_50 : decode cX6_longer 50 = .ok (.iadd, 1) := by decide +kernel
theorem dX6_longer_51 : decode cX6_longer 51 = .ok (.laload, 1) := by decide +kernel
theorem dX6_longer_52 : decode cX6_longer 52 = .ok (.lstore_n 3, 1) := by decide +kernel
theorem dX6_longer_53 : decode cX6_longer 53 = .ok (.lload_n 3, 1) := by decide +kernel
theorem dX6_longer_54 : decode cX6_longer 54 = .ok (.ldc2_w 179, 3) := by decide +kernel
theorem dX6_longer_57 : decode cX6_longer 57 = .ok (.lcmp, 1) := by decide +kernel
theorem dX6_longer_58 : decode cX6_longer 58 = .ok (.ifCond .ne 6, 3) := by decide +kernel
theorem dX6_longer_61 : decode cX6_longer 61 = .ok (.goto 88, 3) := by decide +kernel
theorem dX6_longer_64 : decode cX6_longer 64 = .ok (.lload_n 3, 1) := by decide +kernel
theorem dX6_longer_65 : decode cX6_longer 65 = .ok (.aload_n 0, 1) := by decide +kernel
theorem dX6_longer_66 : decode cX6_longer 66 = .ok (.getfield 34, 3) := by decide +kernel
theorem dX6_longer_69 : decode cX6_longer 69 = .ok (.iload_n 2, 1) := by decide +kernel
theorem dX6_longer_70 : decode cX6_longer 70 = .ok (.laload, 1) := by decide +kernel
theorem dX6_longer_71 : decode cX6_longer 71 = .ok (.ladd, 1) := by decide +kernel
theorem dX6_longer_72 : decode cX6_longer 72 = .ok (.lstore_n 3, 1) := by decide +kernel
theorem dX6_longer_73 : decode cX6_longer 73 = .ok (.iconst 0, 1) := by decide +kernel
theorem dX6_longer_74 : decode cX6_longer 74 = .ok (.istore 5, 2) := by decide +kernel
theorem dX6_longer_76 : decode cX6_longer 76 = .ok (.iload 5, 2) := by decide +kernel
theorem dX6_longer_78 : decode cX6_longer 78 = .ok (.bipush 53, 2) := by decide +kernel
theorem dX6_longer_80 : decode cX6_longer 80 = .ok (.if_icmp .ge 69, 3) := by decide +kernel
theorem dX6_longer_83 : decode cX6_longer 83 = .ok (.aload_n 0, 1) := by decide +kernel
theorem dX6_longer_84 : decode cX6_longer 84 = .ok (.getfield 41, 3) := by decide +kernel
theorem dX6_longer_87 : decode cX6_longer 87 = .ok (.bipush 53, 2) := by decide +kernel
theorem dX6_longer_89 : decode cX6_longer 89 = .ok (.aload_n 0, 1) := by decide +kernel
theorem dX6_longer_90 : decode cX6_longer 90 = .ok (.getfield 31, 3) := by decide +kernel
theorem dX6_longer_93 : decode cX6_longer 93 = .ok (.iload_n 2, 1) := by decide +kernel
theorem dX6_longer_94 : decode cX6_longer 94 = .ok (.iaload, 1) := by decide +kernel
theorem dX6_longer_95 : decode cX6_longer 95 = .ok (.imul, 1) := by decide +kernel
theorem dX6_longer_96 : decode cX6_longer 96 = .ok (.iload 5, 2) := by decide +kernel
theorem dX6_longer_98 : decode cX6_longer 98 = .ok (.iadd, 1) := by decide +kernel
theorem dX6_longer_99 : decode cX6_longer 99 = .ok (.laload, 1) := by decide +kernel
theorem dX6_longer_100 : decode cX6_longer 100 = .ok (.ldc2_w 179, 3) := by decide +kernel
theorem dX6_longer_103 : decode cX6_longer 103 = .ok (.lcmp, 1) := by decide +kernel
theorem dX6_longer_104 : decode cX6_longer 104 = .ok (.ifCond .eq 39, 3) := by decide +kernel
theorem dX6_longer_107 : decode cX6_longer 107 = .ok (.aload_n 0, 1) := by decide +kernel
theorem dX6_longer_108 : decode cX6_longer 108 = .ok (.getfield 38, 3) := by decide +kernel
theorem dX6_longer_111 : decode cX6_longer 111 = .ok (.iload 5, 2) := by decide +kernel
theorem dX6_longer_113 : decode cX6_longer 113 = .ok (.aload_n 0, 1) := by decide +kernel
theorem dX6_longer_114 : decode cX6_longer 114 = .ok (.getfield 38, 3) := by decide +kernel
theorem dX6_longer_117 : decode cX6_longer 117 = .ok (.iload 5, 2) := by decide +kernel
theorem dX6_longer_119 : decode cX6_longer 119 = .ok (.laload, 1) := by decide +kernel
theorem dX6_longer_120 : decode cX6_longer 120 = .ok (.lload_n 3, 1) := by decide +kernel
theorem dX6_longer_121 : decode cX6_longer 121 = .ok (.aload_n 0, 1) := by decide +kernel
theorem dX6_longer_122 : decode cX6_longer 122 = .ok (.getfield 41, 3) := by decide +kernel
theorem dX6_longer_125 : decode cX6_longer 125 = .ok (.bipush 53, 2) := by decide +kernel
theorem dX6_longer_127 : decode cX6_longer 127 = .ok (.aload_n 0, 1) := by decide +kernel
theorem dX6_longer_128 : decode cX6_longer 128 = .ok (.getfield 31, 3) := by decide +kernel
theorem dX6_longer_131 : decode cX6_longer 131 = .ok (.iload_n 2, 1) := by decide +kernel
theorem dX6_longer_132 : decode cX6_longer 132 = .ok (.iaload, 1) := by decide +kernel
theorem dX6_longer_133 : decode cX6_longer 133 = .ok (.imul, 1) := by decide +kernel
theorem dX6_longer_134 : decode cX6_longer 134 = .ok (.iload 5, 2) := by decide +kernel
theorem dX6_longer_136 : decode cX6_longer 136 = .ok (.iadd, 1) := by decide +kernel
theorem dX6_longer_137 : decode cX6_longer 137 = .ok (.laload, 1) := by decide +kernel
theorem dX6_longer_138 : decode cX6_longer 138 = .ok (.ladd, 1) := by decide +kernel
theorem dX6_longer_139 : decode cX6_longer 139 = .ok (.invokestatic 195, 3) := by decide +kernel
theorem dX6_longer_142 : decode cX6_longer 142 = .ok (.lastore, 1) := by decide +kernel
theorem dX6_longer_143 : decode cX6_longer 143 = .ok (.iinc 5 1, 3) := by decide +kernel
theorem dX6_longer_146 : decode cX6_longer 146 = .ok (.goto (-70), 3) := by decide +kernel
theorem dX6_longer_149 : decode cX6_longer 149 = .ok (.iinc 2 1, 3) := by decide +kernel
theorem dX6_longer_152 : decode cX6_longer 152 = .ok (.goto (-124), 3) := by decide +kernel
theorem dX6_longer_155 : decode cX6_longer 155 = .ok (.iconst 0, 1) := by decide +kernel
theorem dX6_longer_156 : decode cX6_longer 156 = .ok (.istore_n 2, 1) := by decide +kernel
theorem dX6_longer_157 : decode cX6_longer 157 = .ok (.iload_n 2, 1) := by decide +kernel
theorem dX6_longer_158 : decode cX6_longer 158 = .ok (.bipush 53, 2) := by decide +kernel
theorem dX6_longer_160 : decode cX6_longer 160 = .ok (.if_icmp .ge 40, 3) := by decide +kernel
theorem dX6_longer_163 : decode cX6_longer 163 = .ok (.aload_n 0, 1) := by decide +kernel
theorem dX6_longer_164 : decode cX6_longer 164 = .ok (.getfield 44, 3) := by decide +kernel
theorem dX6_longer_167 : decode cX6_longer 167 = .ok (.bipush 53, 2) := by decide +kernel
theorem dX6_longer_169 : decode cX6_longer 169 = .ok (.iload_n 1, 1) := by decide +kernel
theorem dX6_longer_170 : decode cX6_longer 170 = .ok (.imul, 1) := by decide +kernel
theorem dX6_longer_171 : decode cX6_longer 171 = .ok (.iload_n 2, 1) := by decide +kernel
theorem dX6_longer_172 : decode cX6_longer 172 = .ok (.iadd, 1) := by decide +kernel
theorem dX6_longer_173 : decode cX6_longer 173 = .ok (.aload_n 0, 1) := by decide +kernel
theorem dX6_longer_174 : decode cX6_longer 174 = .ok (.getfield 44, 3) := by decide +kernel
theorem dX6_longer_177 : decode cX6_longer 177 = .ok (.bipush 53, 2) := by decide +kernel
theorem dX6_longer_179 : decode cX6_longer 179 = .ok (.iload_n 1, 1) := by decide +kernel
theorem dX6_longer_180 : decode cX6_longer 180 = .ok (.imul, 1) := by decide +kernel
theorem dX6_longer_181 : decode cX6_longer 181 = .ok (.iload_n 2, 1) := by decide +kernel
theorem dX6_longer_182 : decode cX6_longer 182 = .ok (.iadd, 1) := by decide +kernel
theorem dX6_longer_183 : decode cX6_longer 183 = .ok (.laload, 1) := by decide +kernel
theorem dX6_longer_184 : decode cX6_longer 184 = .ok (.aload_n 0, 1) := by decide +kernel
theorem dX6_longer_185 : decode cX6_longer 185 = .ok (.getfield 38, 3) := by decide +kernel
theorem dX6_longer_188 : decode cX6_longer 188 = .ok (.iload_n 2, 1) := by decide +kernel
theorem dX6_longer_189 : decode cX6_longer 189 = .ok (.laload, 1) := by decide +kernel
theorem dX6_longer_190 : decode cX6_longer 190 = .ok (.invokestatic 195, 3) := by decide +kernel
theorem dX6_longer_193 : decode cX6_longer 193 = .ok (.lastore, 1) := by decide +kernel
theorem dX6_longer_194 : decode cX6_longer 194 = .ok (.iinc 2 1, 3) := by decide +kernel
theorem dX6_longer_197 : decode cX6_longer 197 = .ok (.goto (-40), 3) := by decide +kernel
theorem dX6_longer_200 : decode cX6_longer 200 = .ok (.return_, 1) := by decide +kernel
set_option maxRecDepth 20000 in
theorem ggX6_frees_X6_isFact : GoodIn wsX6_frees wsX6_isFact := goodIn_r _ [7, 8, 65, 66, 67, 68, 69, 70, 71, 72, 73, 74, 75, 76, 77, 78, 79, 80, 81, 82, 83, 84, 85, 86, 87, 88, 89, 90, 91, 92, 93, 94, 95, 96, 97, 98, 99, 100, 101, 102, 103, 104, 105] (by decide +kernel) (by decide +kernel)
set_option maxRecDepth 20000 in
theorem gX6_frees_X6_isFact : GoodIn wsX6_frees (wsV RX6 140 RX6 yX6_isFact wsX6_isFact) := goodIn_app (goodIn_of _ (by decide +kernel)) ggX6_frees_X6_isFact
set_option maxRecDepth 20000 in
theorem ggX6_frees_X6_refuse : GoodIn wsX6_frees wsX6_refuse := goodIn_r _ [12, 2, 65, 66, 67, 68, 69, 70, 71, 72, 73, 74, 75, 76, 77, 78, 79, 80, 81, 82, 83, 84, 85, 86, 87, 88, 89, 90, 91, 92, 93, 94, 95, 96, 97, 98, 99, 100, 101, 102, 103, 104, 105] (by decide +kernel) (by decide +kernel)
set_option maxRecDepth 20000 in
theorem gX6_frees_X6_refuse : GoodIn wsX6_frees (wsV RX6 115 RX6 yX6_refuse wsX6_refuse) := goodIn_app (goodIn_of _ (by decide +kernel)) ggX6_frees_X6_refuse
set_option maxRecDepth 20000 in
theorem ggX6_frees_X6_isDay : GoodIn wsX6_frees wsX6_isDay := goodIn_r _ [15] (by decide +kernel) (by decide +kernel)
set_option maxRecDepth 20000 in
theorem gX6_frees_X6_isDay : GoodIn wsX6_frees (va_wsS RX6 129 yX6_isDay wsX6_isDay) := goodIn_app (goodIn_of _ (by decide +kernel)) ggX6_frees_X6_isDay
set_option maxRecDepth 20000 in
theorem ggX6_frees_X6_net : GoodIn wsX6_frees wsX6_net := goodIn_r _ [19, 20, 21, 22, 23, 8, 24, 25, 26, 27, 28, 29, 6, 30, 31, 32, 33, 34, 35, 36, 37, 38, 39, 40, 41, 42, 43, 44, 45, 46, 47, 48, 49, 50, 51, 52, 53, 54, 55, 56, 57, 58, 65, 66, 67, 68, 69, 70, 71, 72, 73, 74, 75, 76, 77, 78, 79, 80, 81, 82, 83, 84, 85, 86, 87, 88, 89, 90, 91, 92, 93, 94, 95, 96, 97, 98, 99, 100, 101, 102, 103, 104, 105] (by decide +kernel) (by decide +kernel)
set_option maxRecDepth 20000 in
theorem gX6_frees_X6_net : GoodIn wsX6_frees (wsV RX6 181 RX6 yX6_net wsX6_net) := goodIn_app (goodIn_of _ (by decide +kernel)) ggX6_frees_X6_net
set_option maxRecDepth 20000 in
theorem ggX6_frees_X6_goes : GoodIn wsX6_frees wsX6_goes := goodIn_r _ [62, 63, 64, 20, 40, 42, 41, 65, 66, 67, 68, 69, 70, 71, 72, 73, 74, 75, 76, 77, 78, 79, 80, 81, 82, 83, 84, 85, 86, 87, 88, 89, 90, 91, 92, 93, 94, 95, 96, 97, 98, 99, 100, 101, 102, 103, 104, 105] (by decide +kernel) (by decide +kernel)
set_option maxRecDepth 20000 in
theorem gX6_frees_X6_goes : GoodIn wsX6_frees (wsV RX6 185 RX6 yX6_goes wsX6_goes) := goodIn_app (goodIn_of _ (by decide +kernel)) ggX6_frees_X6_goes
set_option maxRecDepth 20000 in
theorem ggX6_frees_X6_isKnown : GoodIn wsX6_frees wsX6_isKnown := goodIn_r _ [52, 53, 54, 65, 66, 67, 68, 69, 70, 71, 72, 73, 74, 75, 76, 77, 78, 79, 80, 81, 82, 83, 84, 85, 86, 87, 88, 89, 90, 91, 92, 93, 94, 95, 96, 97, 98, 99, 100, 101, 102, 103, 104, 105] (by decide +kernel) (by decide +kernel)
set_option maxRecDepth 20000 in
theorem gX6_frees_X6_isKnown : GoodIn wsX6_frees (wsV RX6 171 RX6 yX6_isKnown wsX6_isKnown) := goodIn_app (goodIn_of _ (by decide +kernel)) ggX6_frees_X6_isKnown
theorem dX6_frees_0 : decode cX6_frees 0 = .ok (.aload_n 0, 1) := by decide +kernel
theorem dX6_frees_1 : decode cX6_frees 1 = .ok (.iconst 0, 1) := by decide +kernel
theorem dX6_frees_2 : decode cX6_frees 2 = .ok (.putfield 101, 3) := by decide +kernel
theorem dX6_frees_5 : decode cX6_frees 5 = .ok (.aload_n 0, 1) := by decide +kernel
theorem dX6_frees_6 : decode cX6_frees 6 = .ok (.iconst 0, 1) := by decide +kernel
theorem dX6_frees_7 : decode cX6_frees 7 = .ok (.putfield 105, 3) := by decide +kernel
theorem dX6_frees_10 : decode cX6_frees 10 = .ok (.aload_n 0, 1) := by decide +kernel
theorem dX6_frees_11 : decode cX6_frees 11 = .ok (.iload_n 1, 1) := by decide +kernel
theorem dX6_frees_12 : decode cX6_frees 12 = .ok (.invokevirtual 140, 3) := by decide +kernel
theorem dX6_frees_15 : decode cX6_frees 15 = .ok (.ifCond .ne 9, 3) := by decide +kernel
theorem dX6_frees_18 : decode cX6_frees 18 = .ok (.aload_n 0, 1) := by decide +kernel
theorem dX6_frees_19 : decode cX6_frees 19 = .ok (.iconst 1, 1) := by decide +kernel
theorem dX6_frees_20 : decode cX6_frees 20 = .ok (.invokevirtual 115, 3) := by decide +kernel
theorem dX6_frees_23 : decode cX6_frees 23 = .ok (.ireturn, 1) := by decide +kernel
theorem dX6_frees_24 : decode cX6_frees 24 = .ok (.iload_n 2, 1) := by decide +kernel
theorem dX6_frees_25 : decode cX6_frees 25 = .ok (.invokestatic 129, 3) := by decide +kernel
theorem dX6_frees_28 : decode cX6_frees 28 = .ok (.ifCond .ne 9, 3) := by decide +kernel
theorem dX6_frees_31 : decode cX6_frees 31 = .ok (.aload_n 0, 1) := by decide +kernel
theorem dX6_frees_32 : decode cX6_frees 32 = .ok (.iconst 2, 1) := by decide +kernel
theorem dX6_frees_33 : decode cX6_frees 33 = .ok (.invokevirtual 115, 3) := by decide +kernel
theorem dX6_frees_36 : decode cX6_frees 36 = .ok (.ireturn, 1) := by decide +kernel
theorem dX6_frees_37 : decode cX6_frees 37 = .ok (.aload_n 0, 1) := by decide +kernel
theorem dX6_frees_38 : decode cX6_frees 38 = .ok (.iload_n 2, 1) := by decide +kernel
theorem dX6_frees_39 : decode cX6_frees 39 = .ok (.iconst (-1), 1) := by decide +kernel
theorem dX6_frees_40 : decode cX6_frees 40 = .ok (.invokevirtual 181, 3) := by decide +kernel
theorem dX6_frees_43 : decode cX6_frees 43 = .ok (.aload_n 0, 1) := by decide +kernel
theorem dX6_frees_44 : decode cX6_frees 44 = .ok (.iconst 0, 1) := by decide +kernel
theorem dX6_frees_45 : decode cX6_frees 45 = .ok (.invokevirtual 185, 3) := by decide +kernel
theorem dX6_frees_48 : decode cX6_frees 48 = .ok (.ifCond .eq 10, 3) := by decide +kernel
theorem dX6_frees_51 : decode cX6_frees 51 = .ok (.aload_n 0, 1) := by decide +kernel
theorem dX6_frees_52 : decode cX6_frees 52 = .ok (.bipush 6, 2) := by decide +kernel
theorem dX6_frees_54 : decode cX6_frees 54 = .ok (.invokevirtual 115, 3) := by decide +kernel
theorem dX6_frees_57 : decode cX6_frees 57 = .ok (.ireturn, 1) := by decide +kernel
theorem dX6_frees_58 : decode cX6_frees 58 = .ok (.aload_n 0, 1) := by decide +kernel
theorem dX6_frees_59 : decode cX6_frees 59 = .ok (.iload_n 1, 1) := by decide +kernel
theorem dX6_frees_60 : decode cX6_frees 60 = .ok (.iload_n 2, 1) := by decide +kernel
theorem dX6_frees_61 : decode cX6_frees 61 = .ok (.invokevirtual 171, 3) := by decide +kernel
theorem dX6_frees_64 : decode cX6_frees 64 = .ok (.ifCond .ne 10, 3) := by decide +kernel
theorem dX6_frees_67 : decode cX6_frees 67 = .ok (.aload_n 0, 1) := by decide +kernel
theorem dX6_frees_68 : decode cX6_frees 68 = .ok (.bipush 8, 2) := by decide +kernel
theorem dX6_frees_70 : decode cX6_frees 70 = .ok (.invokevirtual 115, 3) := by decide +kernel
theorem dX6_frees_73 : decode cX6_frees 73 = .ok (.ireturn, 1) := by decide +kernel
theorem dX6_frees_74 : decode cX6_frees 74 = .ok (.aload_n 0, 1) := by decide +kernel
theorem dX6_frees_75 : decode cX6_frees 75 = .ok (.iload_n 2, 1) := by decide +kernel
theorem dX6_frees_76 : decode cX6_frees 76 = .ok (.iload_n 1, 1) := by decide +kernel
theorem dX6_frees_77 : decode cX6_frees 77 = .ok (.invokevirtual 181, 3) := by decide +kernel
theorem dX6_frees_80 : decode cX6_frees 80 = .ok (.aload_n 0, 1) := by decide +kernel
theorem dX6_frees_81 : decode cX6_frees 81 = .ok (.iconst 0, 1) := by decide +kernel
theorem dX6_frees_82 : decode cX6_frees 82 = .ok (.invokevirtual 185, 3) := by decide +kernel
theorem dX6_frees_85 : decode cX6_frees 85 = .ok (.ifCond .eq 7, 3) := by decide +kernel
theorem dX6_frees_88 : decode cX6_frees 88 = .ok (.iconst 1, 1) := by decide +kernel
theorem dX6_frees_89 : decode cX6_frees 89 = .ok (.goto 4, 3) := by decide +kernel
theorem dX6_frees_92 : decode cX6_frees 92 = .ok (.iconst 0, 1) := by decide +kernel
theorem dX6_frees_93 : decode cX6_frees 93 = .ok (.ireturn, 1) := by decide +kernel
set_option maxRecDepth 20000 in
theorem ggX6_order_X6_isPlate : GoodIn wsX6_order wsX6_isPlate := goodIn_r _ [8, 9, 65, 66, 67, 68, 69, 70, 71, 72, 73, 74, 75, 76, 77, 78, 79, 80, 81, 82, 83, 84, 85, 86, 87, 88, 89, 90, 91, 92, 93, 94, 95, 96, 97, 98, 99, 100, 101, 102, 103, 104, 105] (by decide +kernel) (by decide +kernel)
set_option maxRecDepth 20000 in
theorem gX6_order_X6_isPlate : GoodIn wsX6_order (wsV RX6 122 RX6 yX6_isPlate wsX6_isPlate) := goodIn_app (goodIn_of _ (by decide +kernel)) ggX6_order_X6_isPlate
set_option maxRecDepth 20000 in
theorem ggX6_order_X6_refuse : GoodIn wsX6_order wsX6_refuse := goodIn_r _ [13, 2, 65, 66, 67, 68, 69, 70, 71, 72, 73, 74, 75, 76, 77, 78, 79, 80, 81, 82, 83, 84, 85, 86, 87, 88, 89, 90, 91, 92, 93, 94, 95, 96, 97, 98, 99, 100, 101, 102, 103, 104, 105] (by decide +kernel) (by decide +kernel)
set_option maxRecDepth 20000 in
theorem gX6_order_X6_refuse : GoodIn wsX6_order (wsV RX6 115 RX6 yX6_refuse wsX6_refuse) := goodIn_app (goodIn_of _ (by decide +kernel)) ggX6_order_X6_refuse
set_option maxRecDepth 20000 in
theorem ggX6_order_X6_isDay : GoodIn wsX6_order wsX6_isDay := goodIn_r _ [16] (by decide +kernel) (by decide +kernel)
set_option maxRecDepth 20000 in
theorem gX6_order_X6_isDay : GoodIn wsX6_order (va_wsS RX6 129 yX6_isDay wsX6_isDay) := goodIn_app (goodIn_of _ (by decide +kernel)) ggX6_order_X6_isDay
set_option maxRecDepth 20000 in
theorem ggX6_order_X6_net : GoodIn wsX6_order wsX6_net := goodIn_r _ [20, 21, 9, 22, 23, 24, 25, 26, 27, 28, 29, 30, 7, 31, 32, 33, 34, 35, 36, 37, 38, 39, 40, 41, 42, 43, 44, 45, 46, 47, 48, 49, 50, 51, 52, 53, 54, 55, 56, 57, 58, 59, 65, 66, 67, 68, 69, 70, 71, 72, 73, 74, 75, 76, 77, 78, 79, 80, 81, 82, 83, 84, 85, 86, 87, 88, 89, 90, 91, 92, 93, 94, 95, 96, 97, 98, 99, 100, 101, 102, 103, 104, 105] (by decide +kernel) (by decide +kernel)
set_option maxRecDepth 20000 in
theorem gX6_order_X6_net : GoodIn wsX6_order (wsV RX6 181 RX6 yX6_net wsX6_net) := goodIn_app (goodIn_of _ (by decide +kernel)) ggX6_order_X6_net
set_option maxRecDepth 20000 in
theorem ggX6_order_X6_goes : GoodIn wsX6_order wsX6_goes := goodIn_r _ [63, 3, 64, 21, 41, 43, 42, 65, 66, 67, 68, 69, 70, 71, 72, 73, 74, 75, 76, 77, 78, 79, 80, 81, 82, 83, 84, 85, 86, 87, 88, 89, 90, 91, 92, 93, 94, 95, 96, 97, 98, 99, 100, 101, 102, 103, 104, 105] (by decide +kernel) (by decide +kernel)
set_option maxRecDepth 20000 in
theorem gX6_order_X6_goes : GoodIn wsX6_order (wsV RX6 185 RX6 yX6_goes wsX6_goes) := goodIn_app (goodIn_of _ (by decide +kernel)) ggX6_order_X6_goes
set_option maxRecDepth 20000 in
theorem ggX6_order_X6_placeOf : GoodIn wsX6_order wsX6_placeOf := goodIn_r _ [31] (by decide +kernel) (by decide +kernel)
set_option maxRecDepth 20000 in
theorem gX6_order_X6_placeOf : GoodIn wsX6_order (va_wsS RX6 155 yX6_placeOf wsX6_placeOf) := goodIn_app (goodIn_of _ (by decide +kernel)) ggX6_order_X6_placeOf
theorem dX6_order_0 : decode cX6_order 0 = .ok (.aload_n 0, 1) := by decide +kernel
theorem dX6_order_1 : decode cX6_order 1 = .ok (.iconst 0, 1) := by decide +kernel
theorem dX6_order_2 : decode cX6_order 2 = .ok (.putfield 101, 3) := by decide +kernel
theorem dX6_order_5 : decode cX6_order 5 = .ok (.aload_n 0, 1) := by decide +kernel
theorem dX6_order_6 : decode cX6_order 6 = .ok (.iconst 0, 1) := by decide +kernel
theorem dX6_order_7 : decode cX6_order 7 = .ok (.putfield 105, 3) := by decide +kernel
theorem dX6_order_10 : decode cX6_order 10 = .ok (.aload_n 0, 1) := by decide +kernel
theorem dX6_order_11 : decode cX6_order 11 = .ok (.iload_n 1, 1) := by decide +kernel
theorem dX6_order_12 : decode cX6_order 12 = .ok (.invokevirtual 122, 3) := by decide +kernel
theorem dX6_order_15 : decode cX6_order 15 = .ok (.ifCond .eq 16, 3) := by decide +kernel
theorem dX6_order_18 : decode cX6_order 18 = .ok (.aload_n 0, 1) := by decide +kernel
theorem dX6_order_19 : decode cX6_order 19 = .ok (.iload_n 2, 1) := by decide +kernel
theorem dX6_order_20 : decode cX6_order 20 = .ok (.invokevirtual 122, 3) := by decide +kernel
theorem dX6_order_23 : decode cX6_order 23 = .ok (.ifCond .eq 8, 3) := by decide +kernel
theorem dX6_order_26 : decode cX6_order 26 = .ok (.iload_n 1, 1) := by decide +kernel
theorem dX6_order_27 : decode cX6_order 27 = .ok (.iload_n 2, 1) := by decide +kernel
theorem dX6_order_28 : decode cX6_order 28 = .ok (.if_icmp .ne 9, 3) := by decide +kernel
theorem dX6_order_31 : decode cX6_order 31 = .ok (.aload_n 0, 1) := by decide +kernel
theorem dX6_order_32 : decode cX6_order 32 = .ok (.iconst 1, 1) := by decide +kernel
theorem dX6_order_33 : decode cX6_order 33 = .ok (.invokevirtual 115, 3) := by decide +kernel
theorem dX6_order_36 : decode cX6_order 36 = .ok (.ireturn, 1) := by decide +kernel
theorem dX6_order_37 : decode cX6_order 37 = .ok (.iload_n 3, 1) := by decide +kernel
theorem dX6_order_38 : decode cX6_order 38 = .ok (.invokestatic 129, 3) := by decide +kernel
theorem dX6_order_41 : decode cX6_order 41 = .ok (.ifCond .ne 9, 3) := by decide +kernel
theorem dX6_order_44 : decode cX6_order 44 = .ok (.aload_n 0, 1) := by decide +kernel
theorem dX6_order_45 : decode cX6_order 45 = .ok (.iconst 2, 1) := by decide +kernel
theorem dX6_order_46 : decode cX6_order 46 = .ok (.invokevirtual 115, 3) := by decide +kernel
theorem dX6_order_49 : decode cX6_order 49 = .ok (.ireturn, 1) := by decide +kernel
theorem dX6_order_50 : decode cX6_order 50 = .ok (.aload_n 0, 1) := by decide +kernel
theorem dX6_order_51 : decode cX6_order 51 = .ok (.iload_n 3, 1) := by decide +kernel
theorem dX6_order_52 : decode cX6_order 52 = .ok (.iconst (-1), 1) := by decide +kernel
theorem dX6_order_53 : decode cX6_order 53 = .ok (.invokevirtual 181, 3) := by decide +kernel
theorem dX6_order_56 : decode cX6_order 56 = .ok (.aload_n 0, 1) := by decide +kernel
theorem dX6_order_57 : decode cX6_order 57 = .ok (.iconst 0, 1) := by decide +kernel
theorem dX6_order_58 : decode cX6_order 58 = .ok (.invokevirtual 185, 3) := by decide +kernel
theorem dX6_order_61 : decode cX6_order 61 = .ok (.ifCond .ne 9, 3) := by decide +kernel
theorem dX6_order_64 : decode cX6_order 64 = .ok (.aload_n 0, 1) := by decide +kernel
theorem dX6_order_65 : decode cX6_order 65 = .ok (.iconst 5, 1) := by decide +kernel
theorem dX6_order_66 : decode cX6_order 66 = .ok (.invokevirtual 115, 3) := by decide +kernel
theorem dX6_order_69 : decode cX6_order 69 = .ok (.ireturn, 1) := by decide +kernel
theorem dX6_order_70 : decode cX6_order 70 = .ok (.aload_n 0, 1) := by decide +kernel
theorem dX6_order_71 : decode cX6_order 71 = .ok (.iload_n 1, 1) := by decide +kernel
theorem dX6_order_72 : decode cX6_order 72 = .ok (.invokestatic 155, 3) := by decide +kernel
theorem dX6_order_75 : decode cX6_order 75 = .ok (.invokevirtual 185, 3) := by decide +kernel
theorem dX6_order_78 : decode cX6_order 78 = .ok (.pop, 1) := by decide +kernel
theorem dX6_order_79 : decode cX6_order 79 = .ok (.aload_n 0, 1) := by decide +kernel
theorem dX6_order_80 : decode cX6_order 80 = .ok (.getfield 38, 3) := by decide +kernel
theorem dX6_order_83 : decode cX6_order 83 = .ok (.iload_n 2, 1) := by decide +kernel
theorem dX6_order_84 : decode cX6_order 84 = .ok (.invokestatic 155, 3) := by decide +kernel
theorem dX6_order_87 : decode cX6_order 87 = .ok (.laload, 1) := by decide +kernel
theorem dX6_order_88 : decode cX6_order 88 = .ok (.lconst 1, 1) := by decide +kernel
theorem dX6_order_89 : decode cX6_order 89 = .ok (.lcmp, 1) := by decide +kernel
theorem dX6_order_90 : decode cX6_order 90 = .ok (.ifCond .lt 5, 3) := by decide +kernel
theorem dX6_order_93 : decode cX6_order 93 = .ok (.iconst 2, 1) := by decide +kernel
theorem dX6_order_94 : decode cX6_order 94 = .ok (.ireturn, 1) := by decide +kernel
theorem dX6_order_95 : decode cX6_order 95 = .ok (.aload_n 0, 1) := by decide +kernel
theorem dX6_order_96 : decode cX6_order 96 = .ok (.iload_n 2, 1) := by decide +kernel
theorem dX6_order_97 : decode cX6_order 97 = .ok (.invokestatic 155, 3) := by decide +kernel
theorem dX6_order_100 : decode cX6_order 100 = .ok (.invokevirtual 185, 3) := by decide +kernel
theorem dX6_order_103 : decode cX6_order 103 = .ok (.pop, 1) := by decide +kernel
theorem dX6_order_104 : decode cX6_order 104 = .ok (.aload_n 0, 1) := by decide +kernel
theorem dX6_order_105 : decode cX6_order 105 = .ok (.getfield 38, 3) := by decide +kernel
theorem dX6_order_108 : decode cX6_order 108 = .ok (.iload_n 1, 1) := by decide +kernel
theorem dX6_order_109 : decode cX6_order 109 = .ok (.invokestatic 155, 3) := by decide +kernel
theorem dX6_order_112 : decode cX6_order 112 = .ok (.laload, 1) := by decide +kernel
theorem dX6_order_113 : decode cX6_order 113 = .ok (.lneg, 1) := by decide +kernel
theorem dX6_order_114 : decode cX6_order 114 = .ok (.lconst 1, 1) := by decide +kernel
theorem dX6_order_115 : decode cX6_order 115 = .ok (.lcmp, 1) := by decide +kernel
theorem dX6_order_116 : decode cX6_order 116 = .ok (.ifCond .lt 7, 3) := by decide +kernel
theorem dX6_order_119 : decode cX6_order 119 = .ok (.iconst 1, 1) := by decide +kernel
theorem dX6_order_120 : decode cX6_order 120 = .ok (.goto 4, 3) := by decide +kernel
theorem dX6_order_123 : decode cX6_order 123 = .ok (.iconst 0, 1) := by decide +kernel
theorem dX6_order_124 : decode cX6_order 124 = .ok (.ireturn, 1) := by decide +kernel
set_option maxRecDepth 20000 in
theorem ggX6_edges_X6_isPlate : GoodIn wsX6_edges wsX6_isPlate := goodIn_r _ [9, 10, 15, 16, 17, 18, 19, 20, 21, 22, 23, 24, 25, 26, 27, 28, 29, 30, 31, 32, 33, 34, 35, 36, 37, 38, 39, 40, 41, 42, 43, 44, 45, 46, 47, 48, 49, 50, 51, 52, 53, 54, 55] (by decide +kernel) (by decide +kernel)
set_option maxRecDepth 20000 in
theorem gX6_edges_X6_isPlate : GoodIn wsX6_edges (wsV RX6 122 RX6 yX6_isPlate wsX6_isPlate) := goodIn_app (goodIn_of _ (by decide +kernel)) ggX6_edges_X6_isPlate
set_option maxRecDepth 20000 in
theorem ggX6_edges_X6_no : GoodIn wsX6_edges wsX6_no := goodIn_r _ [14, 2, 15, 16, 17, 18, 19, 20, 21, 22, 23, 24, 25, 26, 27, 28, 29, 30, 31, 32, 33, 34, 35, 36, 37, 38, 39, 40, 41, 42, 43, 44, 45, 46, 47, 48, 49, 50, 51, 52, 53, 54, 55] (by decide +kernel) (by decide +kernel)
set_option maxRecDepth 20000 in
theorem gX6_edges_X6_no : GoodIn wsX6_edges (wsV RX6 143 RX6 yX6_no wsX6_no) := goodIn_app (goodIn_of _ (by decide +kernel)) ggX6_edges_X6_no
theorem dX6_edges_0 : decode cX6_edges 0 = .ok (.aload_n 0, 1) := by decide +kernel
theorem dX6_edges_1 : decode cX6_edges 1 = .ok (.iconst 0, 1) := by decide +kernel
theorem dX6_edges_2 : decode cX6_edges 2 = .ok (.putfield 101, 3) := by decide +kernel
theorem dX6_edges_5 : decode cX6_edges 5 = .ok (.aload_n 0, 1) := by decide +kernel
theorem dX6_edges_6 : decode cX6_edges 6 = .ok (.iconst 0, 1) := by decide +kernel
theorem dX6_edges_7 : decode cX6_edges 7 = .ok (.putfield 105, 3) := by decide +kernel
theorem dX6_edges_10 : decode cX6_edges 10 = .ok (.aload_n 0, 1) := by decide +kernel
theorem dX6_edges_11 : decode cX6_edges 11 = .ok (.iload_n 1, 1) := by decide +kernel
theorem dX6_edges_12 : decode cX6_edges 12 = .ok (.invokevirtual 122, 3) := by decide +kernel
theorem dX6_edges_15 : decode cX6_edges 15 = .ok (.ifCond .ne 9, 3) := by decide +kernel
theorem dX6_edges_18 : decode cX6_edges 18 = .ok (.aload_n 0, 1) := by decide +kernel
theorem dX6_edges_19 : decode cX6_edges 19 = .ok (.iconst 1, 1) := by decide +kernel
theorem dX6_edges_20 : decode cX6_edges 20 = .ok (.invokevirtual 143, 3) := by decide +kernel
theorem dX6_edges_23 : decode cX6_edges 23 = .ok (.ireturn, 1) := by decide +kernel
theorem dX6_edges_24 : decode cX6_edges 24 = .ok (.iload_n 2, 1) := by decide +kernel
theorem dX6_edges_25 : decode cX6_edges 25 = .ok (.ifCond .lt 19, 3) := by decide +kernel
theorem dX6_edges_28 : decode cX6_edges 28 = .ok (.iload_n 2, 1) := by decide +kernel
theorem dX6_edges_29 : decode cX6_edges 29 = .ok (.bipush 99, 2) := by decide +kernel
theorem dX6_edges_31 : decode cX6_edges 31 = .ok (.if_icmp .gt 13, 3) := by decide +kernel
theorem dX6_edges_34 : decode cX6_edges 34 = .ok (.iload_n 3, 1) := by decide +kernel
theorem dX6_edges_35 : decode cX6_edges 35 = .ok (.ifCond .lt 9, 3) := by decide +kernel
theorem dX6_edges_38 : decode cX6_edges 38 = .ok (.iload_n 3, 1) := by decide +kernel
theorem dX6_edges_39 : decode cX6_edges 39 = .ok (.bipush 99, 2) := by decide +kernel
theorem dX6_edges_41 : decode cX6_edges 41 = .ok (.if_icmp .le 9, 3) := by decide +kernel
theorem dX6_edges_44 : decode cX6_edges 44 = .ok (.aload_n 0, 1) := by decide +kernel
theorem dX6_edges_45 : decode cX6_edges 45 = .ok (.iconst 2, 1) := by decide +kernel
theorem dX6_edges_46 : decode cX6_edges 46 = .ok (.invokevirtual 143, 3) := by decide +kernel
theorem dX6_edges_49 : decode cX6_edges 49 = .ok (.ireturn, 1) := by decide +kernel
theorem dX6_edges_50 : decode cX6_edges 50 = .ok (.aload_n 0, 1) := by decide +kernel
theorem dX6_edges_51 : decode cX6_edges 51 = .ok (.getfield 47, 3) := by decide +kernel
theorem dX6_edges_54 : decode cX6_edges 54 = .ok (.iload_n 1, 1) := by decide +kernel
theorem dX6_edges_55 : decode cX6_edges 55 = .ok (.iload_n 2, 1) := by decide +kernel
theorem dX6_edges_56 : decode cX6_edges 56 = .ok (.iastore, 1) := by decide +kernel
theorem dX6_edges_57 : decode cX6_edges 57 = .ok (.aload_n 0, 1) := by decide +kernel
theorem dX6_edges_58 : decode cX6_edges 58 = .ok (.getfield 50, 3) := by decide +kernel
theorem dX6_edges_61 : decode cX6_edges 61 = .ok (.iload_n 1, 1) := by decide +kernel
theorem dX6_edges_62 : decode cX6_edges 62 = .ok (.iload_n 3, 1) := by decide +kernel
theorem dX6_edges_63 : decode cX6_edges 63 = .ok (.iastore, 1) := by decide +kernel
theorem dX6_edges_64 : decode cX6_edges 64 = .ok (.iconst 1, 1) := by decide +kernel
theorem dX6_edges_65 : decode cX6_edges 65 = .ok (.ireturn, 1) := by decide +kernel
theorem dX6_leftOf_0 : decode cX6_leftOf 0 = .ok (.aload_n 0, 1) := by decide +kernel
theorem dX6_leftOf_1 : decode cX6_leftOf 1 = .ok (.getfield 47, 3) := by decide +kernel
theorem dX6_leftOf_4 : decode cX6_leftOf 4 = .ok (.iload_n 1, 1) := by decide +kernel
theorem dX6_leftOf_5 : decode cX6_leftOf 5 = .ok (.iaload, 1) := by decide +kernel
theorem dX6_leftOf_6 : decode cX6_leftOf 6 = .ok (.ifCond .le 12, 3) := by decide +kernel
theorem dX6_leftOf_9 : decode cX6_leftOf 9 = .ok (.aload_n 0, 1) := by decide +kernel
theorem dX6_leftOf_10 : decode cX6_leftOf 10 = .ok (.getfield 47, 3) := by decide +kernel
theorem dX6_leftOf_13 : decode cX6_leftOf 13 = .ok (.iload_n 1, 1) := by decide +kernel
theorem dX6_leftOf_14 : decode cX6_leftOf 14 = .ok (.iaload, 1) := by decide +kernel
theorem dX6_leftOf_15 : decode cX6_leftOf 15 = .ok (.goto 7, 3) := by decide +kernel
theorem dX6_leftOf_18 : decode cX6_leftOf 18 = .ok (.bipush 100, 2) := by decide +kernel
theorem dX6_leftOf_20 : decode cX6_leftOf 20 = .ok (.iload_n 1, 1) := by decide +kernel
theorem dX6_leftOf_21 : decode cX6_leftOf 21 = .ok (.iadd, 1) := by decide +kernel
theorem dX6_leftOf_22 : decode cX6_leftOf 22 = .ok (.ireturn, 1) := by decide +kernel
theorem dX6_rightOf_0 : decode cX6_rightOf 0 = .ok (.aload_n 0, 1) := by decide +kernel
theorem dX6_rightOf_1 : decode cX6_rightOf 1 = .ok (.getfield 50, 3) := by decide +kernel
theorem dX6_rightOf_4 : decode cX6_rightOf 4 = .ok (.iload_n 1, 1) := by decide +kernel
theorem dX6_rightOf_5 : decode cX6_rightOf 5 = .ok (.iaload, 1) := by decide +kernel
theorem dX6_rightOf_6 : decode cX6_rightOf 6 = .ok (.ifCond .le 12, 3) := by decide +kernel
theorem dX6_rightOf_9 : decode cX6_rightOf 9 = .ok (.aload_n 0, 1) := by decide +kernel
theorem dX6_rightOf_10 : decode cX6_rightOf 10 = .ok (.getfield 50, 3) := by decide +kernel
theorem dX6_rightOf_13 : decode cX6_rightOf 13 = .ok (.iload_n 1, 1) := by decide +kernel
theorem dX6_rightOf_14 : decode cX6_rightOf 14 = .ok (.iaload, 1) := by decide +kernel
theorem dX6_rightOf_15 : decode cX6_rightOf 15 = .ok (.goto 8, 3) := by decide +kernel
theorem dX6_rightOf_18 : decode cX6_rightOf 18 = .ok (.sipush 200, 3) := by decide +kernel
theorem dX6_rightOf_21 : decode cX6_rightOf 21 = .ok (.iload_n 1, 1) := by decide +kernel
theorem dX6_rightOf_22 : decode cX6_rightOf 22 = .ok (.iadd, 1) := by decide +kernel
theorem dX6_rightOf_23 : decode cX6_rightOf 23 = .ok (.ireturn, 1) := by decide +kernel
theorem dX6_isSet_0 : decode cX6_isSet 0 = .ok (.iload_n 1, 1) := by decide +kernel
theorem dX6_isSet_1 : decode cX6_isSet 1 = .ok (.ifCond .lt 17, 3) := by decide +kernel
theorem dX6_isSet_4 : decode cX6_isSet 4 = .ok (.iload_n 1, 1) := by decide +kernel
theorem dX6_isSet_5 : decode cX6_isSet 5 = .ok (.iconst 1, 1) := by decide +kernel
theorem dX6_isSet_6 : decode cX6_isSet 6 = .ok (.aload_n 0, 1) := by decide +kernel
theorem dX6_isSet_7 : decode cX6_isSet 7 = .ok (.getfield 108, 3) := by decide +kernel
theorem dX6_isSet_10 : decode cX6_isSet 10 = .ok (.ishl, 1) := by decide +kernel
theorem dX6_isSet_11 : decode cX6_isSet 11 = .ok (.if_icmp .ge 7, 3) := by decide +kernel
theorem dX6_isSet_14 : decode cX6_isSet 14 = .ok (.iconst 1, 1) := by decide +kernel
theorem dX6_isSet_15 : decode cX6_isSet 15 = .ok (.goto 4, 3) := by decide +kernel
theorem dX6_isSet_18 : decode cX6_isSet 18 = .ok (.iconst 0, 1) := by decide +kernel
theorem dX6_isSet_19 : decode cX6_isSet 19 = .ok (.ireturn, 1) := by decide +kernel
set_option maxRecDepth 20000 in
theorem ggX6_marks_X6_leftOf : GoodIn wsX6_marks wsX6_leftOf := goodIn_r _ [11, 12, 18, 19, 20, 21, 22, 23, 24, 25, 26, 27, 28, 29, 30, 31, 32, 33, 34, 35, 36, 37, 38, 39, 40, 41, 42, 43, 44, 45, 46, 47, 48, 49, 50, 51, 52, 53, 54, 55, 56, 57, 58] (by decide +kernel) (by decide +kernel)
set_option maxRecDepth 20000 in
theorem gX6_marks_X6_leftOf : GoodIn wsX6_marks (wsV RX6 201 RX6 yX6_leftOf wsX6_leftOf) := goodIn_app (goodIn_of _ (by decide +kernel)) ggX6_marks_X6_leftOf
set_option maxRecDepth 20000 in
theorem ggX6_marks_X6_rightOf : GoodIn wsX6_marks wsX6_rightOf := goodIn_r _ [16, 17, 18, 19, 20, 21, 22, 23, 24, 25, 26, 27, 28, 29, 30, 31, 32, 33, 34, 35, 36, 37, 38, 39, 40, 41, 42, 43, 44, 45, 46, 47, 48, 49, 50, 51, 52, 53, 54, 55, 56, 57, 58] (by decide +kernel) (by decide +kernel)
set_option maxRecDepth 20000 in
theorem gX6_marks_X6_rightOf : GoodIn wsX6_marks (wsV RX6 204 RX6 yX6_rightOf wsX6_rightOf) := goodIn_app (goodIn_of _ (by decide +kernel)) ggX6_marks_X6_rightOf
theorem dX6_marks_0 : decode cX6_marks 0 = .ok (.iconst 0, 1) := by decide +kernel
theorem dX6_marks_1 : decode cX6_marks 1 = .ok (.istore_n 2, 1) := by decide +kernel
theorem dX6_marks_2 : decode cX6_marks 2 = .ok (.iload_n 2, 1) := by decide +kernel
theorem dX6_marks_3 : decode cX6_marks 3 = .ok (.aload_n 0, 1) := by decide +kernel
theorem dX6_marks_4 : decode cX6_marks 4 = .ok (.getfield 108, 3) := by decide +kernel
theorem dX6_marks_7 : decode cX6_marks 7 = .ok (.if_icmp .ge 50, 3) := by decide +kernel
theorem dX6_marks_10 : decode cX6_marks 10 = .ok (.iload_n 1, 1) := by decide +kernel
theorem dX6_marks_11 : decode cX6_marks 11 = .ok (.iload_n 2, 1) := by decide +kernel
theorem dX6_marks_12 : decode cX6_marks 12 = .ok (.ishr, 1) := by decide +kernel
theorem dX6_marks_13 : decode cX6_marks 13 = .ok (.iconst 1, 1) := by decide +kernel
theorem dX6_marks_14 : decode cX6_marks 14 = .ok (.iand, 1) := by decide +kernel
theorem dX6_marks_15 : decode cX6_marks 15 = .ok (.ifCond .ne 6, 3) := by decide +kernel
theorem dX6_marks_18 : decode cX6_marks 18 = .ok (.goto 33, 3) := by decide +kernel
theorem dX6_marks_21 : decode cX6_marks 21 = .ok (.aload_n 0, 1) := by decide +kernel
theorem dX6_marks_22 : decode cX6_marks 22 = .ok (.getfield 62, 3) := by decide +kernel
theorem dX6_marks_25 : decode cX6_marks 25 = .ok (.aload_n 0, 1) := by decide +kernel
theorem dX6_marks_26 : decode cX6_marks 26 = .ok (.iload_n 2, 1) := by decide +kernel
theorem dX6_marks_27 : decode cX6_marks 27 = .ok (.invokevirtual 201, 3) := by decide +kernel
theorem dX6_marks_30 : decode cX6_marks 30 = .ok (.aload_n 0, 1) := by decide +kernel
theorem dX6_marks_31 : decode cX6_marks 31 = .ok (.iload_n 2, 1) := by decide +kernel
theorem dX6_marks_32 : decode cX6_marks 32 = .ok (.invokevirtual 201, 3) := by decide +kernel
theorem dX6_marks_35 : decode cX6_marks 35 = .ok (.iastore, 1) := by decide +kernel
theorem dX6_marks_36 : decode cX6_marks 36 = .ok (.aload_n 0, 1) := by decide +kernel
theorem dX6_marks_37 : decode cX6_marks 37 = .ok (.getfield 62, 3) := by decide +kernel
theorem dX6_marks_40 : decode cX6_marks 40 = .ok (.aload_n 0, 1) := by decide +kernel
theorem dX6_marks_41 : decode cX6_marks 41 = .ok (.iload_n 2, 1) := by decide +kernel
theorem dX6_marks_42 : decode cX6_marks 42 = .ok (.invokevirtual 204, 3) := by decide +kernel
theorem dX6_marks_45 : decode cX6_marks 45 = .ok (.aload_n 0, 1) := by decide +kernel
theorem dX6_marks_46 : decode cX6_marks 46 = .ok (.iload_n 2, 1) := by decide +kernel
theorem dX6_marks_47 : decode cX6_marks 47 = .ok (.invokevirtual 204, 3) := by decide +kernel
theorem dX6_marks_50 : decode cX6_marks 50 = .ok (.iastore, 1) := by decide +kernel
theorem dX6_marks_51 : decode cX6_marks 51 = .ok (.iinc 2 1, 3) := by decide +kernel
theorem dX6_marks_54 : decode cX6_marks 54 = .ok (.goto (-52), 3) := by decide +kernel
theorem dX6_marks_57 : decode cX6_marks 57 = .ok (.iconst 1, 1) := by decide +kernel
theorem dX6_marks_58 : decode cX6_marks 58 = .ok (.istore_n 2, 1) := by decide +kernel
theorem dX6_marks_59 : decode cX6_marks 59 = .ok (.iload_n 2, 1) := by decide +kernel
theorem dX6_marks_60 : decode cX6_marks 60 = .ok (.ifCond .eq 109, 3) := by decide +kernel
theorem dX6_marks_63 : decode cX6_marks 63 = .ok (.iconst 0, 1) := by decide +kernel
theorem dX6_marks_64 : decode cX6_marks 64 = .ok (.istore_n 2, 1) := by decide +kernel
theorem dX6_marks_65 : decode cX6_marks 65 = .ok (.iconst 0, 1) := by decide +kernel
theorem dX6_marks_66 : decode cX6_marks 66 = .ok (.istore_n 3, 1) := by decide +kernel
theorem dX6_marks_67 : decode cX6_marks 67 = .ok (.iload_n 3, 1) := by decide +kernel
theorem dX6_marks_68 : decode cX6_marks 68 = .ok (.aload_n 0, 1) := by decide +kernel
theorem dX6_marks_69 : decode cX6_marks 69 = .ok (.getfield 108, 3) := by decide +kernel
theorem dX6_marks_72 : decode cX6_marks 72 = .ok (.if_icmp .ge 94, 3) := by decide +kernel
theorem dX6_marks_75 : decode cX6_marks 75 = .ok (.iload_n 1, 1) := by decide +kernel
theorem dX6_marks_76 : decode cX6_marks 76 = .ok (.iload_n 3, 1) := by decide +kernel
theorem dX6_marks_77 : decode cX6_marks 77 = .ok (.ishr, 1) := by decide +kernel
theorem dX6_marks_78 : decode cX6_marks 78 = .ok (.iconst 1, 1) := by decide +kernel
theorem dX6_marks_79 : decode cX6_marks 79 = .ok (.iand, 1) := by decide +kernel
theorem dX6_marks_80 : decode cX6_marks 80 = .ok (.ifCond .eq 80, 3) := by decide +kernel
theorem dX6_marks_83 : decode cX6_marks 83 = .ok (.aload_n 0, 1) := by decide +kernel
theorem dX6_marks_84 : decode cX6_marks 84 = .ok (.getfield 62, 3) := by decide +kernel
theorem dX6_marks_87 : decode cX6_marks 87 = .ok (.aload_n 0, 1) := by decide +kernel
theorem dX6_marks_88 : decode cX6_marks 88 = .ok (.iload_n 3, 1) := by decide +kernel
theorem dX6_marks_89 : decode cX6_marks 89 = .ok (.invokevirtual 201, 3) := by decide +kernel
theorem dX6_marks_92 : decode cX6_marks 92 = .ok (.iaload, 1) := by decide +kernel
theorem dX6_marks_93 : decode cX6_marks 93 = .ok (.aload_n 0, 1) := by decide +kernel
theorem dX6_marks_94 : decode cX6_marks 94 = .ok (.getfield 62, 3) := by decide +kernel
theorem dX6_marks_97 : decode cX6_marks 97 = .ok (.aload_n 0, 1) := by decide +kernel
theorem dX6_marks_98 : decode cX6_marks 98 = .ok (.iload_n 3, 1) := by decide +kernel
theorem dX6_marks_99 : decode cX6_marks 99 = .ok (.invokevirtual 204, 3) := by decide +kernel
theorem dX6_marks_102 : decode cX6_marks 102 = .ok (.iaload, 1) := by decide +kernel
theorem dX6_marks_103 : decode cX6_marks 103 = .ok (.if_icmp .ne 6, 3) := by decide +kernel
theorem dX6_marks_106 : decode cX6_marks 106 = .ok (.goto 54, 3) := by decide +kernel
theorem dX6_marks_109 : decode cX6_marks 109 = .ok (.aload_n 0, 1) := by decide +kernel
theorem dX6_marks_110 : decode cX6_marks 110 = .ok (.getfield 62, 3) := by decide +kernel
theorem dX6_marks_113 : decode cX6_marks 113 = .ok (.aload_n 0, 1) := by decide +kernel
theorem dX6_marks_114 : decode cX6_marks 114 = .ok (.iload_n 3, 1) := by decide +kernel
theorem dX6_marks_115 : decode cX6_marks 115 = .ok (.invokevirtual 201, 3) := by decide +kernel
theorem dX6_marks_118 : decode cX6_marks 118 = .ok (.iaload, 1) := by decide +kernel
theorem dX6_marks_119 : decode cX6_marks 119 = .ok (.aload_n 0, 1) := by decide +kernel
theorem dX6_marks_120 : decode cX6_marks 120 = .ok (.getfield 62, 3) := by decide +kernel
end
section
theorem dX6_marks_123 : decode cX6_marks 123 = .ok (.aload_n 0, 1) := by decide +kernel
theorem dX6_marks_124 : decode cX6_marks 124 = .ok (.iload_n 3, 1) := by decide +kernel
theorem dX6_marks_125 : decode cX6_marks 125 = .ok (.invokevirtual 204, 3) := by decide +kernel
theorem dX6_marks_128 : decode cX6_marks 128 = .ok (.iaload, 1) := by decide +kernel
theorem dX6_marks_129 : decode cX6_marks 129 = .ok (.invokestatic 207, 3) := by decide +kernel
theorem dX6_marks_132 : decode cX6_marks 132 = .ok (.istore 4, 2) := by decide +kernel
theorem dX6_marks_134 : decode cX6_marks 134 = .ok (.aload_n 0, 1) := by decide +kernel
theorem dX6_marks_135 : decode cX6_marks 135 = .ok (.getfield 62, 3) := by decide +kernel
theorem dX6_marks_138 : decode cX6_marks 138 = .ok (.aload_n 0, 1) := by decide +kernel
theorem dX6_marks_139 : decode cX6_marks 139 = .ok (.iload_n 3, 1) := by decide +kernel
theorem dX6_marks_140 : decode cX6_marks 140 = .ok (.invokevirtual 201, 3) := by decide +kernel
theorem dX6_marks_143 : decode cX6_marks 143 = .ok (.iload 4, 2) := by decide +kernel
theorem dX6_marks_145 : decode cX6_marks 145 = .ok (.iastore, 1) := by decide +kernel
theorem dX6_marks_146 : decode cX6_marks 146 = .ok (.aload_n 0, 1) := by decide +kernel
theorem dX6_marks_147 : decode cX6_marks 147 = .ok (.getfield 62, 3) := by decide +kernel
theorem dX6_marks_150 : decode cX6_marks 150 = .ok (.aload_n 0, 1) := by decide +kernel
theorem dX6_marks_151 : decode cX6_marks 151 = .ok (.iload_n 3, 1) := by decide +kernel
theorem dX6_marks_152 : decode cX6_marks 152 = .ok (.invokevirtual 204, 3) := by decide +kernel
theorem dX6_marks_155 : decode cX6_marks 155 = .ok (.iload 4, 2) := by decide +kernel
theorem dX6_marks_157 : decode cX6_marks 157 = .ok (.iastore, 1) := by decide +kernel
theorem dX6_marks_158 : decode cX6_marks 158 = .ok (.iconst 1, 1) := by decide +kernel
theorem dX6_marks_159 : decode cX6_marks 159 = .ok (.istore_n 2, 1) := by decide +kernel
theorem dX6_marks_160 : decode cX6_marks 160 = .ok (.iinc 3 1, 3) := by decide +kernel
theorem dX6_marks_163 : decode cX6_marks 163 = .ok (.goto (-96), 3) := by decide +kernel
theorem dX6_marks_166 : decode cX6_marks 166 = .ok (.goto (-107), 3) := by decide +kernel
theorem dX6_marks_169 : decode cX6_marks 169 = .ok (.return_, 1) := by decide +kernel
set_option maxRecDepth 20000 in
theorem ggX6_counts_X6_leftOf : GoodIn wsX6_counts wsX6_leftOf := goodIn_r _ [7, 8, 14, 15, 16, 17, 18, 19, 20, 21, 22, 23, 24, 25, 26, 27, 28, 29, 30, 31, 32, 33, 34, 35, 36, 37, 38, 39, 40, 41, 42, 43, 44, 45, 46, 47, 48, 49, 50, 51, 52, 53, 54] (by decide +kernel) (by decide +kernel)
set_option maxRecDepth 20000 in
theorem gX6_counts_X6_leftOf : GoodIn wsX6_counts (wsV RX6 201 RX6 yX6_leftOf wsX6_leftOf) := goodIn_app (goodIn_of _ (by decide +kernel)) ggX6_counts_X6_leftOf
set_option maxRecDepth 20000 in
theorem ggX6_counts_X6_rightOf : GoodIn wsX6_counts wsX6_rightOf := goodIn_r _ [12, 13, 14, 15, 16, 17, 18, 19, 20, 21, 22, 23, 24, 25, 26, 27, 28, 29, 30, 31, 32, 33, 34, 35, 36, 37, 38, 39, 40, 41, 42, 43, 44, 45, 46, 47, 48, 49, 50, 51, 52, 53, 54] (by decide +kernel) (by decide +kernel)
set_option maxRecDepth 20000 in
theorem gX6_counts_X6_rightOf : GoodIn wsX6_counts (wsV RX6 204 RX6 yX6_rightOf wsX6_rightOf) := goodIn_app (goodIn_of _ (by decide +kernel)) ggX6_counts_X6_rightOf
theorem dX6_counts_0 : decode cX6_counts 0 = .ok (.iconst 0, 1) := by decide +kernel
theorem dX6_counts_1 : decode cX6_counts 1 = .ok (.istore_n 2, 1) := by decide +kernel
theorem dX6_counts_2 : decode cX6_counts 2 = .ok (.iload_n 2, 1) := by decide +kernel
theorem dX6_counts_3 : decode cX6_counts 3 = .ok (.sipush 500, 3) := by decide +kernel
theorem dX6_counts_6 : decode cX6_counts 6 = .ok (.if_icmp .ge 16, 3) := by decide +kernel
theorem dX6_counts_9 : decode cX6_counts 9 = .ok (.aload_n 0, 1) := by decide +kernel
theorem dX6_counts_10 : decode cX6_counts 10 = .ok (.getfield 59, 3) := by decide +kernel
theorem dX6_counts_13 : decode cX6_counts 13 = .ok (.iload_n 2, 1) := by decide +kernel
theorem dX6_counts_14 : decode cX6_counts 14 = .ok (.iconst 0, 1) := by decide +kernel
theorem dX6_counts_15 : decode cX6_counts 15 = .ok (.iastore, 1) := by decide +kernel
theorem dX6_counts_16 : decode cX6_counts 16 = .ok (.iinc 2 1, 3) := by decide +kernel
theorem dX6_counts_19 : decode cX6_counts 19 = .ok (.goto (-17), 3) := by decide +kernel
theorem dX6_counts_22 : decode cX6_counts 22 = .ok (.iconst 0, 1) := by decide +kernel
theorem dX6_counts_23 : decode cX6_counts 23 = .ok (.istore_n 2, 1) := by decide +kernel
theorem dX6_counts_24 : decode cX6_counts 24 = .ok (.iload_n 2, 1) := by decide +kernel
theorem dX6_counts_25 : decode cX6_counts 25 = .ok (.aload_n 0, 1) := by decide +kernel
theorem dX6_counts_26 : decode cX6_counts 26 = .ok (.getfield 108, 3) := by decide +kernel
theorem dX6_counts_29 : decode cX6_counts 29 = .ok (.if_icmp .ge 48, 3) := by decide +kernel
theorem dX6_counts_32 : decode cX6_counts 32 = .ok (.iload_n 1, 1) := by decide +kernel
theorem dX6_counts_33 : decode cX6_counts 33 = .ok (.iload_n 2, 1) := by decide +kernel
theorem dX6_counts_34 : decode cX6_counts 34 = .ok (.ishr, 1) := by decide +kernel
theorem dX6_counts_35 : decode cX6_counts 35 = .ok (.iconst 1, 1) := by decide +kernel
theorem dX6_counts_36 : decode cX6_counts 36 = .ok (.iand, 1) := by decide +kernel
theorem dX6_counts_37 : decode cX6_counts 37 = .ok (.ifCond .ne 6, 3) := by decide +kernel
theorem dX6_counts_40 : decode cX6_counts 40 = .ok (.goto 31, 3) := by decide +kernel
theorem dX6_counts_43 : decode cX6_counts 43 = .ok (.aload_n 0, 1) := by decide +kernel
theorem dX6_counts_44 : decode cX6_counts 44 = .ok (.getfield 59, 3) := by decide +kernel
theorem dX6_counts_47 : decode cX6_counts 47 = .ok (.aload_n 0, 1) := by decide +kernel
theorem dX6_counts_48 : decode cX6_counts 48 = .ok (.iload_n 2, 1) := by decide +kernel
theorem dX6_counts_49 : decode cX6_counts 49 = .ok (.invokevirtual 201, 3) := by decide +kernel
theorem dX6_counts_52 : decode cX6_counts 52 = .ok (.dup2, 1) := by decide +kernel
theorem dX6_counts_53 : decode cX6_counts 53 = .ok (.iaload, 1) := by decide +kernel
theorem dX6_counts_54 : decode cX6_counts 54 = .ok (.iconst 1, 1) := by decide +kernel
theorem dX6_counts_55 : decode cX6_counts 55 = .ok (.iadd, 1) := by decide +kernel
theorem dX6_counts_56 : decode cX6_counts 56 = .ok (.iastore, 1) := by decide +kernel
theorem dX6_counts_57 : decode cX6_counts 57 = .ok (.aload_n 0, 1) := by decide +kernel
theorem dX6_counts_58 : decode cX6_counts 58 = .ok (.getfield 59, 3) := by decide +kernel
theorem dX6_counts_61 : decode cX6_counts 61 = .ok (.aload_n 0, 1) := by decide +kernel
theorem dX6_counts_62 : decode cX6_counts 62 = .ok (.iload_n 2, 1) := by decide +kernel
theorem dX6_counts_63 : decode cX6_counts 63 = .ok (.invokevirtual 204, 3) := by decide +kernel
theorem dX6_counts_66 : decode cX6_counts 66 = .ok (.dup2, 1) := by decide +kernel
theorem dX6_counts_67 : decode cX6_counts 67 = .ok (.iaload, 1) := by decide +kernel
theorem dX6_counts_68 : decode cX6_counts 68 = .ok (.iconst 1, 1) := by decide +kernel
theorem dX6_counts_69 : decode cX6_counts 69 = .ok (.isub, 1) := by decide +kernel
theorem dX6_counts_70 : decode cX6_counts 70 = .ok (.iastore, 1) := by decide +kernel
theorem dX6_counts_71 : decode cX6_counts 71 = .ok (.iinc 2 1, 3) := by decide +kernel
theorem dX6_counts_74 : decode cX6_counts 74 = .ok (.goto (-50), 3) := by decide +kernel
theorem dX6_counts_77 : decode cX6_counts 77 = .ok (.return_, 1) := by decide +kernel
set_option maxRecDepth 20000 in
theorem ggX6_hasRow_X6_marks : GoodIn wsX6_hasRow wsX6_marks := goodIn_r _ [12, 1, 2, 13, 14, 6, 15, 16, 17, 18, 11, 19, 20, 21, 22, 23, 24, 25, 30, 31, 32, 33, 34, 35, 36, 37, 38, 39, 40, 41, 42, 43, 44, 45, 46, 47, 48, 49, 50, 51, 52, 53, 54, 55, 56, 57, 58, 59, 60, 61, 62, 63, 64, 65, 66, 67, 68, 69, 70] (by decide +kernel) (by decide +kernel)
set_option maxRecDepth 20000 in
theorem gX6_hasRow_X6_marks : GoodIn wsX6_hasRow (wsV RX6 211 RX6 yX6_marks wsX6_marks) := goodIn_app (goodIn_of _ (by decide +kernel)) ggX6_hasRow_X6_marks
set_option maxRecDepth 20000 in
theorem ggX6_hasRow_X6_counts : GoodIn wsX6_hasRow wsX6_counts := goodIn_r _ [29, 3, 1, 16, 17, 18, 11, 19, 20, 21, 22, 23, 24, 25, 30, 31, 32, 33, 34, 35, 36, 37, 38, 39, 40, 41, 42, 43, 44, 45, 46, 47, 48, 49, 50, 51, 52, 53, 54, 55, 56, 57, 58, 59, 60, 61, 62, 63, 64, 65, 66, 67, 68, 69, 70] (by decide +kernel) (by decide +kernel)
set_option maxRecDepth 20000 in
theorem gX6_hasRow_X6_counts : GoodIn wsX6_hasRow (wsV RX6 214 RX6 yX6_counts wsX6_counts) := goodIn_app (goodIn_of _ (by decide +kernel)) ggX6_hasRow_X6_counts
set_option maxRecDepth 20000 in
theorem ggX6_hasRow_X6_leftOf : GoodIn wsX6_hasRow wsX6_leftOf := goodIn_r _ [19, 20, 30, 31, 32, 33, 34, 35, 36, 37, 38, 39, 40, 41, 42, 43, 44, 45, 46, 47, 48, 49, 50, 51, 52, 53, 54, 55, 56, 57, 58, 59, 60, 61, 62, 63, 64, 65, 66, 67, 68, 69, 70] (by decide +kernel) (by decide +kernel)
set_option maxRecDepth 20000 in
theorem gX6_hasRow_X6_leftOf : GoodIn wsX6_hasRow (wsV RX6 201 RX6 yX6_leftOf wsX6_leftOf) := goodIn_app (goodIn_of _ (by decide +kernel)) ggX6_hasRow_X6_leftOf
theorem dX6_hasRow_0 : decode cX6_hasRow 0 = .ok (.iload_n 1, 1) := by decide +kernel
theorem dX6_hasRow_1 : decode cX6_hasRow 1 = .ok (.ifCond .ne 5, 3) := by decide +kernel
theorem dX6_hasRow_4 : decode cX6_hasRow 4 = .ok (.iconst 1, 1) := by decide +kernel
theorem dX6_hasRow_5 : decode cX6_hasRow 5 = .ok (.ireturn, 1) := by decide +kernel
theorem dX6_hasRow_6 : decode cX6_hasRow 6 = .ok (.aload_n 0, 1) := by decide +kernel
theorem dX6_hasRow_7 : decode cX6_hasRow 7 = .ok (.iload_n 1, 1) := by decide +kernel
theorem dX6_hasRow_8 : decode cX6_hasRow 8 = .ok (.invokevirtual 211, 3) := by decide +kernel
theorem dX6_hasRow_11 : decode cX6_hasRow 11 = .ok (.aload_n 0, 1) := by decide +kernel
theorem dX6_hasRow_12 : decode cX6_hasRow 12 = .ok (.iload_n 1, 1) := by decide +kernel
theorem dX6_hasRow_13 : decode cX6_hasRow 13 = .ok (.invokevirtual 214, 3) := by decide +kernel
theorem dX6_hasRow_16 : decode cX6_hasRow 16 = .ok (.iconst 0, 1) := by decide +kernel
theorem dX6_hasRow_17 : decode cX6_hasRow 17 = .ok (.istore_n 3, 1) := by decide +kernel
theorem dX6_hasRow_18 : decode cX6_hasRow 18 = .ok (.iconst 0, 1) := by decide +kernel
theorem dX6_hasRow_19 : decode cX6_hasRow 19 = .ok (.istore 4, 2) := by decide +kernel
theorem dX6_hasRow_21 : decode cX6_hasRow 21 = .ok (.iconst (-1), 1) := by decide +kernel
theorem dX6_hasRow_22 : decode cX6_hasRow 22 = .ok (.istore 5, 2) := by decide +kernel
theorem dX6_hasRow_24 : decode cX6_hasRow 24 = .ok (.iconst 0, 1) := by decide +kernel
theorem dX6_hasRow_25 : decode cX6_hasRow 25 = .ok (.istore 6, 2) := by decide +kernel
theorem dX6_hasRow_27 : decode cX6_hasRow 27 = .ok (.iconst 0, 1) := by decide +kernel
theorem dX6_hasRow_28 : decode cX6_hasRow 28 = .ok (.istore 7, 2) := by decide +kernel
theorem dX6_hasRow_30 : decode cX6_hasRow 30 = .ok (.iload 7, 2) := by decide +kernel
theorem dX6_hasRow_32 : decode cX6_hasRow 32 = .ok (.aload_n 0, 1) := by decide +kernel
theorem dX6_hasRow_33 : decode cX6_hasRow 33 = .ok (.getfield 108, 3) := by decide +kernel
theorem dX6_hasRow_36 : decode cX6_hasRow 36 = .ok (.if_icmp .ge 79, 3) := by decide +kernel
theorem dX6_hasRow_39 : decode cX6_hasRow 39 = .ok (.iload_n 1, 1) := by decide +kernel
theorem dX6_hasRow_40 : decode cX6_hasRow 40 = .ok (.iload 7, 2) := by decide +kernel
theorem dX6_hasRow_42 : decode cX6_hasRow 42 = .ok (.ishr, 1) := by decide +kernel
theorem dX6_hasRow_43 : decode cX6_hasRow 43 = .ok (.iconst 1, 1) := by decide +kernel
theorem dX6_hasRow_44 : decode cX6_hasRow 44 = .ok (.iand, 1) := by decide +kernel
theorem dX6_hasRow_45 : decode cX6_hasRow 45 = .ok (.ifCond .ne 6, 3) := by decide +kernel
theorem dX6_hasRow_48 : decode cX6_hasRow 48 = .ok (.goto 61, 3) := by decide +kernel
theorem dX6_hasRow_51 : decode cX6_hasRow 51 = .ok (.iload 5, 2) := by decide +kernel
theorem dX6_hasRow_53 : decode cX6_hasRow 53 = .ok (.ifCond .lt 21, 3) := by decide +kernel
theorem dX6_hasRow_56 : decode cX6_hasRow 56 = .ok (.aload_n 0, 1) := by decide +kernel
theorem dX6_hasRow_57 : decode cX6_hasRow 57 = .ok (.getfield 62, 3) := by decide +kernel
theorem dX6_hasRow_60 : decode cX6_hasRow 60 = .ok (.aload_n 0, 1) := by decide +kernel
theorem dX6_hasRow_61 : decode cX6_hasRow 61 = .ok (.iload 7, 2) := by decide +kernel
theorem dX6_hasRow_63 : decode cX6_hasRow 63 = .ok (.invokevirtual 201, 3) := by decide +kernel
theorem dX6_hasRow_66 : decode cX6_hasRow 66 = .ok (.iaload, 1) := by decide +kernel
theorem dX6_hasRow_67 : decode cX6_hasRow 67 = .ok (.iload 5, 2) := by decide +kernel
theorem dX6_hasRow_69 : decode cX6_hasRow 69 = .ok (.if_icmp .eq 5, 3) := by decide +kernel
theorem dX6_hasRow_72 : decode cX6_hasRow 72 = .ok (.iconst 0, 1) := by decide +kernel
theorem dX6_hasRow_73 : decode cX6_hasRow 73 = .ok (.ireturn, 1) := by decide +kernel
theorem dX6_hasRow_74 : decode cX6_hasRow 74 = .ok (.aload_n 0, 1) := by decide +kernel
theorem dX6_hasRow_75 : decode cX6_hasRow 75 = .ok (.getfield 62, 3) := by decide +kernel
theorem dX6_hasRow_78 : decode cX6_hasRow 78 = .ok (.aload_n 0, 1) := by decide +kernel
theorem dX6_hasRow_79 : decode cX6_hasRow 79 = .ok (.iload 7, 2) := by decide +kernel
theorem dX6_hasRow_81 : decode cX6_hasRow 81 = .ok (.invokevirtual 201, 3) := by decide +kernel
theorem dX6_hasRow_84 : decode cX6_hasRow 84 = .ok (.iaload, 1) := by decide +kernel
theorem dX6_hasRow_85 : decode cX6_hasRow 85 = .ok (.istore 5, 2) := by decide +kernel
theorem dX6_hasRow_87 : decode cX6_hasRow 87 = .ok (.iload 6, 2) := by decide +kernel
theorem dX6_hasRow_89 : decode cX6_hasRow 89 = .ok (.ifCond .ne 13, 3) := by decide +kernel
theorem dX6_hasRow_92 : decode cX6_hasRow 92 = .ok (.aload_n 0, 1) := by decide +kernel
theorem dX6_hasRow_93 : decode cX6_hasRow 93 = .ok (.iload 7, 2) := by decide +kernel
theorem dX6_hasRow_95 : decode cX6_hasRow 95 = .ok (.invokevirtual 201, 3) := by decide +kernel
theorem dX6_hasRow_98 : decode cX6_hasRow 98 = .ok (.iload_n 2, 1) := by decide +kernel
theorem dX6_hasRow_99 : decode cX6_hasRow 99 = .ok (.if_icmp .ne 7, 3) := by decide +kernel
theorem dX6_hasRow_102 : decode cX6_hasRow 102 = .ok (.iconst 1, 1) := by decide +kernel
theorem dX6_hasRow_103 : decode cX6_hasRow 103 = .ok (.goto 4, 3) := by decide +kernel
theorem dX6_hasRow_106 : decode cX6_hasRow 106 = .ok (.iconst 0, 1) := by decide +kernel
theorem dX6_hasRow_107 : decode cX6_hasRow 107 = .ok (.istore 6, 2) := by decide +kernel
theorem dX6_hasRow_109 : decode cX6_hasRow 109 = .ok (.iinc 7 1, 3) := by decide +kernel
theorem dX6_hasRow_112 : decode cX6_hasRow 112 = .ok (.goto (-82), 3) := by decide +kernel
theorem dX6_hasRow_115 : decode cX6_hasRow 115 = .ok (.iconst 0, 1) := by decide +kernel
theorem dX6_hasRow_116 : decode cX6_hasRow 116 = .ok (.istore 7, 2) := by decide +kernel
theorem dX6_hasRow_118 : decode cX6_hasRow 118 = .ok (.iload 7, 2) := by decide +kernel
theorem dX6_hasRow_120 : decode cX6_hasRow 120 = .ok (.sipush 500, 3) := by decide +kernel
theorem dX6_hasRow_123 : decode cX6_hasRow 123 = .ok (.if_icmp .ge 38, 3) := by decide +kernel
theorem dX6_hasRow_126 : decode cX6_hasRow 126 = .ok (.iload 4, 2) := by decide +kernel
theorem dX6_hasRow_128 : decode cX6_hasRow 128 = .ok (.iconst 0, 1) := by decide +kernel
theorem dX6_hasRow_129 : decode cX6_hasRow 129 = .ok (.aload_n 0, 1) := by decide +kernel
theorem dX6_hasRow_130 : decode cX6_hasRow 130 = .ok (.getfield 59, 3) := by decide +kernel
theorem dX6_hasRow_133 : decode cX6_hasRow 133 = .ok (.iload 7, 2) := by decide +kernel
theorem dX6_hasRow_135 : decode cX6_hasRow 135 = .ok (.iaload, 1) := by decide +kernel
theorem dX6_hasRow_136 : decode cX6_hasRow 136 = .ok (.invokestatic 217, 3) := by decide +kernel
theorem dX6_hasRow_139 : decode cX6_hasRow 139 = .ok (.iadd, 1) := by decide +kernel
theorem dX6_hasRow_140 : decode cX6_hasRow 140 = .ok (.istore 4, 2) := by decide +kernel
theorem dX6_hasRow_142 : decode cX6_hasRow 142 = .ok (.aload_n 0, 1) := by decide +kernel
theorem dX6_hasRow_143 : decode cX6_hasRow 143 = .ok (.getfield 59, 3) := by decide +kernel
theorem dX6_hasRow_146 : decode cX6_hasRow 146 = .ok (.iload 7, 2) := by decide +kernel
theorem dX6_hasRow_148 : decode cX6_hasRow 148 = .ok (.iaload, 1) := by decide +kernel
theorem dX6_hasRow_149 : decode cX6_hasRow 149 = .ok (.ifCond .le 6, 3) := by decide +kernel
theorem dX6_hasRow_152 : decode cX6_hasRow 152 = .ok (.iload 7, 2) := by decide +kernel
theorem dX6_hasRow_154 : decode cX6_hasRow 154 = .ok (.istore_n 3, 1) := by decide +kernel
theorem dX6_hasRow_155 : decode cX6_hasRow 155 = .ok (.iinc 7 1, 3) := by decide +kernel
theorem dX6_hasRow_158 : decode cX6_hasRow 158 = .ok (.goto (-40), 3) := by decide +kernel
theorem dX6_hasRow_161 : decode cX6_hasRow 161 = .ok (.iload 4, 2) := by decide +kernel
theorem dX6_hasRow_163 : decode cX6_hasRow 163 = .ok (.iconst 1, 1) := by decide +kernel
theorem dX6_hasRow_164 : decode cX6_hasRow 164 = .ok (.if_icmp .le 5, 3) := by decide +kernel
theorem dX6_hasRow_167 : decode cX6_hasRow 167 = .ok (.iconst 0, 1) := by decide +kernel
theorem dX6_hasRow_168 : decode cX6_hasRow 168 = .ok (.ireturn, 1) := by decide +kernel
theorem dX6_hasRow_169 : decode cX6_hasRow 169 = .ok (.iload_n 2, 1) := by decide +kernel
theorem dX6_hasRow_170 : decode cX6_hasRow 170 = .ok (.ifCond .eq 22, 3) := by decide +kernel
theorem dX6_hasRow_173 : decode cX6_hasRow 173 = .ok (.iload 4, 2) := by decide +kernel
theorem dX6_hasRow_175 : decode cX6_hasRow 175 = .ok (.iconst 1, 1) := by decide +kernel
theorem dX6_hasRow_176 : decode cX6_hasRow 176 = .ok (.if_icmp .ne 11, 3) := by decide +kernel
theorem dX6_hasRow_179 : decode cX6_hasRow 179 = .ok (.iload_n 3, 1) := by decide +kernel
theorem dX6_hasRow_180 : decode cX6_hasRow 180 = .ok (.iload_n 2, 1) := by decide +kernel
theorem dX6_hasRow_181 : decode cX6_hasRow 181 = .ok (.if_icmp .ne 15, 3) := by decide +kernel
theorem dX6_hasRow_184 : decode cX6_hasRow 184 = .ok (.goto 8, 3) := by decide +kernel
theorem dX6_hasRow_187 : decode cX6_hasRow 187 = .ok (.iload 6, 2) := by decide +kernel
theorem dX6_hasRow_189 : decode cX6_hasRow 189 = .ok (.ifCond .eq 7, 3) := by decide +kernel
theorem dX6_hasRow_192 : decode cX6_hasRow 192 = .ok (.iconst 1, 1) := by decide +kernel
theorem dX6_hasRow_193 : decode cX6_hasRow 193 = .ok (.goto 4, 3) := by decide +kernel
theorem dX6_hasRow_196 : decode cX6_hasRow 196 = .ok (.iconst 0, 1) := by decide +kernel
theorem dX6_hasRow_197 : decode cX6_hasRow 197 = .ok (.ireturn, 1) := by decide +kernel
set_option maxRecDepth 20000 in
theorem ggX6_finds_X6_hasRow : GoodIn wsX6_finds wsX6_hasRow := goodIn_r _ [7, 8, 9, 10, 11, 12, 13, 14, 15, 16, 17, 6, 18, 19, 20, 21, 22, 23, 24, 25, 26, 27, 28, 29, 30, 31, 32, 33, 34, 35, 40, 41, 42, 43, 44, 45, 46, 47, 48, 49, 50, 51, 52, 53, 54, 55, 56, 57, 58, 59, 60, 61, 62, 63, 64, 65, 66, 67, 68, 69, 70, 71, 72, 73, 74, 75, 76, 77, 78, 79, 80] (by decide +kernel) (by decide +kernel)
set_option maxRecDepth 20000 in
theorem gX6_finds_X6_hasRow : GoodIn wsX6_finds (wsV RX6 219 RX6 yX6_hasRow wsX6_hasRow) := goodIn_app (goodIn_of _ (by decide +kernel)) ggX6_finds_X6_hasRow
set_option maxRecDepth 20000 in
theorem ggX6_finds_X6_isNext : GoodIn wsX6_finds wsX6_isNext := goodIn_r _ [39, 22, 23, 24, 6, 25, 26, 27, 28, 29, 30, 31, 3, 4, 5, 7, 8, 9, 10, 11, 12, 13, 14, 15, 16, 17, 18, 19, 20, 21, 32, 33, 34, 35, 40, 41, 42, 43, 44, 45, 46, 47, 48, 49, 50, 51, 52, 53, 54, 55, 56, 57, 58, 59, 60, 61, 62, 63, 64, 65, 66, 67, 68, 69, 70, 71, 72, 73, 74, 75, 76, 77, 78, 79, 80] (by decide +kernel) (by decide +kernel)
set_option maxRecDepth 20000 in
theorem gX6_finds_X6_isNext : GoodIn wsX6_finds (wsV RX6 225 RX6 yX6_isNext wsX6_isNext) := goodIn_app (goodIn_of _ (by decide +kernel)) ggX6_finds_X6_isNext
set_option maxRecDepth 20000 in
theorem ggX6_finds_X6_rightOf : GoodIn wsX6_finds wsX6_rightOf := goodIn_r _ [30, 31, 40, 41, 42, 43, 44, 45, 46, 47, 48, 49, 50, 51, 52, 53, 54, 55, 56, 57, 58, 59, 60, 61, 62, 63, 64, 65, 66, 67, 68, 69, 70, 71, 72, 73, 74, 75, 76, 77, 78, 79, 80] (by decide +kernel) (by decide +kernel)
set_option maxRecDepth 20000 in
theorem gX6_finds_X6_rightOf : GoodIn wsX6_finds (wsV RX6 204 RX6 yX6_rightOf wsX6_rightOf) := goodIn_app (goodIn_of _ (by decide +kernel)) ggX6_finds_X6_rightOf
theorem dX6_finds_0 : decode cX6_finds 0 = .ok (.aload_n 0, 1) := by decide +kernel
theorem dX6_finds_1 : decode cX6_finds 1 = .ok (.iload_n 1, 1) := by decide +kernel
theorem dX6_finds_2 : decode cX6_finds 2 = .ok (.iconst 0, 1) := by decide +kernel
theorem dX6_finds_3 : decode cX6_finds 3 = .ok (.invokevirtual 219, 3) := by decide +kernel
theorem dX6_finds_6 : decode cX6_finds 6 = .ok (.ifCond .ne 5, 3) := by decide +kernel
theorem dX6_finds_9 : decode cX6_finds 9 = .ok (.iconst 0, 1) := by decide +kernel
theorem dX6_finds_10 : decode cX6_finds 10 = .ok (.ireturn, 1) := by decide +kernel
theorem dX6_finds_11 : decode cX6_finds 11 = .ok (.iload_n 1, 1) := by decide +kernel
theorem dX6_finds_12 : decode cX6_finds 12 = .ok (.istore_n 2, 1) := by decide +kernel
theorem dX6_finds_13 : decode cX6_finds 13 = .ok (.iconst 0, 1) := by decide +kernel
theorem dX6_finds_14 : decode cX6_finds 14 = .ok (.istore_n 3, 1) := by decide +kernel
theorem dX6_finds_15 : decode cX6_finds 15 = .ok (.aload_n 0, 1) := by decide +kernel
theorem dX6_finds_16 : decode cX6_finds 16 = .ok (.iconst 0, 1) := by decide +kernel
theorem dX6_finds_17 : decode cX6_finds 17 = .ok (.putfield 222, 3) := by decide +kernel
theorem dX6_finds_20 : decode cX6_finds 20 = .ok (.iload_n 2, 1) := by decide +kernel
theorem dX6_finds_21 : decode cX6_finds 21 = .ok (.ifCond .eq 63, 3) := by decide +kernel
theorem dX6_finds_24 : decode cX6_finds 24 = .ok (.iconst 0, 1) := by decide +kernel
theorem dX6_finds_25 : decode cX6_finds 25 = .ok (.istore 4, 2) := by decide +kernel
theorem dX6_finds_27 : decode cX6_finds 27 = .ok (.aload_n 0, 1) := by decide +kernel
theorem dX6_finds_28 : decode cX6_finds 28 = .ok (.iload_n 2, 1) := by decide +kernel
theorem dX6_finds_29 : decode cX6_finds 29 = .ok (.iload_n 3, 1) := by decide +kernel
theorem dX6_finds_30 : decode cX6_finds 30 = .ok (.iload 4, 2) := by decide +kernel
theorem dX6_finds_32 : decode cX6_finds 32 = .ok (.invokevirtual 225, 3) := by decide +kernel
theorem dX6_finds_35 : decode cX6_finds 35 = .ok (.ifCond .ne 9, 3) := by decide +kernel
theorem dX6_finds_38 : decode cX6_finds 38 = .ok (.iinc 4 1, 3) := by decide +kernel
theorem dX6_finds_41 : decode cX6_finds 41 = .ok (.goto (-14), 3) := by decide +kernel
theorem dX6_finds_44 : decode cX6_finds 44 = .ok (.aload_n 0, 1) := by decide +kernel
theorem dX6_finds_45 : decode cX6_finds 45 = .ok (.getfield 56, 3) := by decide +kernel
theorem dX6_finds_48 : decode cX6_finds 48 = .ok (.aload_n 0, 1) := by decide +kernel
theorem dX6_finds_49 : decode cX6_finds 49 = .ok (.getfield 222, 3) := by decide +kernel
theorem dX6_finds_52 : decode cX6_finds 52 = .ok (.iload 4, 2) := by decide +kernel
theorem dX6_finds_54 : decode cX6_finds 54 = .ok (.iastore, 1) := by decide +kernel
theorem dX6_finds_55 : decode cX6_finds 55 = .ok (.aload_n 0, 1) := by decide +kernel
theorem dX6_finds_56 : decode cX6_finds 56 = .ok (.dup, 1) := by decide +kernel
theorem dX6_finds_57 : decode cX6_finds 57 = .ok (.getfield 222, 3) := by decide +kernel
theorem dX6_finds_60 : decode cX6_finds 60 = .ok (.iconst 1, 1) := by decide +kernel
theorem dX6_finds_61 : decode cX6_finds 61 = .ok (.iadd, 1) := by decide +kernel
theorem dX6_finds_62 : decode cX6_finds 62 = .ok (.putfield 222, 3) := by decide +kernel
theorem dX6_finds_65 : decode cX6_finds 65 = .ok (.iload_n 2, 1) := by decide +kernel
theorem dX6_finds_66 : decode cX6_finds 66 = .ok (.iconst 1, 1) := by decide +kernel
theorem dX6_finds_67 : decode cX6_finds 67 = .ok (.iload 4, 2) := by decide +kernel
theorem dX6_finds_69 : decode cX6_finds 69 = .ok (.ishl, 1) := by decide +kernel
theorem dX6_finds_70 : decode cX6_finds 70 = .ok (.iconst (-1), 1) := by decide +kernel
theorem dX6_finds_71 : decode cX6_finds 71 = .ok (.ixor, 1) := by decide +kernel
theorem dX6_finds_72 : decode cX6_finds 72 = .ok (.iand, 1) := by decide +kernel
theorem dX6_finds_73 : decode cX6_finds 73 = .ok (.istore_n 2, 1) := by decide +kernel
theorem dX6_finds_74 : decode cX6_finds 74 = .ok (.aload_n 0, 1) := by decide +kernel
theorem dX6_finds_75 : decode cX6_finds 75 = .ok (.iload 4, 2) := by decide +kernel
theorem dX6_finds_77 : decode cX6_finds 77 = .ok (.invokevirtual 204, 3) := by decide +kernel
theorem dX6_finds_80 : decode cX6_finds 80 = .ok (.istore_n 3, 1) := by decide +kernel
theorem dX6_finds_81 : decode cX6_finds 81 = .ok (.goto (-61), 3) := by decide +kernel
theorem dX6_finds_84 : decode cX6_finds 84 = .ok (.iconst 1, 1) := by decide +kernel
theorem dX6_finds_85 : decode cX6_finds 85 = .ok (.ireturn, 1) := by decide +kernel
set_option maxRecDepth 20000 in
theorem ggX6_isNext_X6_leftOf : GoodIn wsX6_isNext wsX6_leftOf := goodIn_r _ [5, 6, 34, 35, 36, 37, 38, 39, 40, 41, 42, 43, 44, 45, 46, 47, 48, 49, 50, 51, 52, 53, 54, 55, 56, 57, 58, 59, 60, 61, 62, 63, 64, 65, 66, 67, 68, 69, 70, 71, 72, 73, 74] (by decide +kernel) (by decide +kernel)
set_option maxRecDepth 20000 in
theorem gX6_isNext_X6_leftOf : GoodIn wsX6_isNext (wsV RX6 201 RX6 yX6_leftOf wsX6_leftOf) := goodIn_app (goodIn_of _ (by decide +kernel)) ggX6_isNext_X6_leftOf
set_option maxRecDepth 20000 in
theorem ggX6_isNext_X6_rightOf : GoodIn wsX6_isNext wsX6_rightOf := goodIn_r _ [10, 11, 34, 35, 36, 37, 38, 39, 40, 41, 42, 43, 44, 45, 46, 47, 48, 49, 50, 51, 52, 53, 54, 55, 56, 57, 58, 59, 60, 61, 62, 63, 64, 65, 66, 67, 68, 69, 70, 71, 72, 73, 74] (by decide +kernel) (by decide +kernel)
set_option maxRecDepth 20000 in
theorem gX6_isNext_X6_rightOf : GoodIn wsX6_isNext (wsV RX6 204 RX6 yX6_rightOf wsX6_rightOf) := goodIn_app (goodIn_of _ (by decide +kernel)) ggX6_isNext_X6_rightOf
set_option maxRecDepth 20000 in
theorem ggX6_isNext_X6_hasRow : GoodIn wsX6_isNext wsX6_hasRow := goodIn_r _ [15, 16, 17, 18, 19, 20, 21, 22, 23, 24, 25, 4, 26, 27, 28, 29, 1, 2, 3, 5, 6, 7, 8, 9, 10, 11, 30, 31, 32, 33, 34, 35, 36, 37, 38, 39, 40, 41, 42, 43, 44, 45, 46, 47, 48, 49, 50, 51, 52, 53, 54, 55, 56, 57, 58, 59, 60, 61, 62, 63, 64, 65, 66, 67, 68, 69, 70, 71, 72, 73, 74] (by decide +kernel) (by decide +kernel)
set_option maxRecDepth 20000 in
theorem gX6_isNext_X6_hasRow : GoodIn wsX6_isNext (wsV RX6 219 RX6 yX6_hasRow wsX6_hasRow) := goodIn_app (goodIn_of _ (by decide +kernel)) ggX6_isNext_X6_hasRow
theorem dX6_isNext_0 : decode cX6_isNext 0 = .ok (.iload_n 1, 1) := by decide +kernel
theorem dX6_isNext_1 : decode cX6_isNext 1 = .ok (.iload_n 3, 1) := by decide +kernel
theorem dX6_isNext_2 : decode cX6_isNext 2 = .ok (.ishr, 1) := by decide +kernel
theorem dX6_isNext_3 : decode cX6_isNext 3 = .ok (.iconst 1, 1) := by decide +kernel
theorem dX6_isNext_4 : decode cX6_isNext 4 = .ok (.iand, 1) := by decide +kernel
theorem dX6_isNext_5 : decode cX6_isNext 5 = .ok (.ifCond .eq 16, 3) := by decide +kernel
theorem dX6_isNext_8 : decode cX6_isNext 8 = .ok (.iload_n 2, 1) := by decide +kernel
theorem dX6_isNext_9 : decode cX6_isNext 9 = .ok (.ifCond .le 14, 3) := by decide +kernel
theorem dX6_isNext_12 : decode cX6_isNext 12 = .ok (.aload_n 0, 1) := by decide +kernel
theorem dX6_isNext_13 : decode cX6_isNext 13 = .ok (.iload_n 3, 1) := by decide +kernel
theorem dX6_isNext_14 : decode cX6_isNext 14 = .ok (.invokevirtual 201, 3) := by decide +kernel
theorem dX6_isNext_17 : decode cX6_isNext 17 = .ok (.iload_n 2, 1) := by decide +kernel
theorem dX6_isNext_18 : decode cX6_isNext 18 = .ok (.if_icmp .eq 5, 3) := by decide +kernel
theorem dX6_isNext_21 : decode cX6_isNext 21 = .ok (.iconst 0, 1) := by decide +kernel
theorem dX6_isNext_22 : decode cX6_isNext 22 = .ok (.ireturn, 1) := by decide +kernel
theorem dX6_isNext_23 : decode cX6_isNext 23 = .ok (.aload_n 0, 1) := by decide +kernel
theorem dX6_isNext_24 : decode cX6_isNext 24 = .ok (.iload_n 1, 1) := by decide +kernel
theorem dX6_isNext_25 : decode cX6_isNext 25 = .ok (.iconst 1, 1) := by decide +kernel
theorem dX6_isNext_26 : decode cX6_isNext 26 = .ok (.iload_n 3, 1) := by decide +kernel
theorem dX6_isNext_27 : decode cX6_isNext 27 = .ok (.ishl, 1) := by decide +kernel
theorem dX6_isNext_28 : decode cX6_isNext 28 = .ok (.iconst (-1), 1) := by decide +kernel
theorem dX6_isNext_29 : decode cX6_isNext 29 = .ok (.ixor, 1) := by decide +kernel
theorem dX6_isNext_30 : decode cX6_isNext 30 = .ok (.iand, 1) := by decide +kernel
theorem dX6_isNext_31 : decode cX6_isNext 31 = .ok (.aload_n 0, 1) := by decide +kernel
theorem dX6_isNext_32 : decode cX6_isNext 32 = .ok (.iload_n 3, 1) := by decide +kernel
theorem dX6_isNext_33 : decode cX6_isNext 33 = .ok (.invokevirtual 204, 3) := by decide +kernel
theorem dX6_isNext_36 : decode cX6_isNext 36 = .ok (.invokevirtual 219, 3) := by decide +kernel
theorem dX6_isNext_39 : decode cX6_isNext 39 = .ok (.ireturn, 1) := by decide +kernel
set_option maxRecDepth 20000 in
theorem ggX6_row_X6_isSet : GoodIn wsX6_row wsX6_isSet := goodIn_r _ [11, 12, 56, 57, 58, 59, 60, 61, 62, 63, 64, 65, 66, 67, 68, 69, 70, 71, 72, 73, 74, 75, 76, 77, 78, 79, 80, 81, 82, 83, 84, 85, 86, 87, 88, 89, 90, 91, 92, 93, 94, 95, 96] (by decide +kernel) (by decide +kernel)
set_option maxRecDepth 20000 in
theorem gX6_row_X6_isSet : GoodIn wsX6_row (wsV RX6 229 RX6 yX6_isSet wsX6_isSet) := goodIn_app (goodIn_of _ (by decide +kernel)) ggX6_row_X6_isSet
set_option maxRecDepth 20000 in
theorem ggX6_row_X6_refuse : GoodIn wsX6_row wsX6_refuse := goodIn_r _ [16, 2, 56, 57, 58, 59, 60, 61, 62, 63, 64, 65, 66, 67, 68, 69, 70, 71, 72, 73, 74, 75, 76, 77, 78, 79, 80, 81, 82, 83, 84, 85, 86, 87, 88, 89, 90, 91, 92, 93, 94, 95, 96] (by decide +kernel) (by decide +kernel)
set_option maxRecDepth 20000 in
theorem gX6_row_X6_refuse : GoodIn wsX6_row (wsV RX6 115 RX6 yX6_refuse wsX6_refuse) := goodIn_app (goodIn_of _ (by decide +kernel)) ggX6_row_X6_refuse
set_option maxRecDepth 20000 in
theorem ggX6_row_X6_finds : GoodIn wsX6_row wsX6_finds := goodIn_r _ [20, 3, 6, 21, 22, 23, 10, 24, 12, 25, 26, 27, 28, 29, 30, 31, 32, 33, 34, 35, 36, 37, 38, 39, 40, 41, 42, 43, 44, 45, 46, 47, 48, 49, 50, 51, 52, 53, 54, 55, 56, 57, 58, 59, 60, 61, 62, 63, 64, 65, 66, 67, 68, 69, 70, 71, 72, 73, 74, 75, 76, 77, 78, 79, 80, 81, 82, 83, 84, 85, 86, 87, 88, 89, 90, 91, 92, 93, 94, 95, 96] (by decide +kernel) (by decide +kernel)
set_option maxRecDepth 20000 in
theorem gX6_row_X6_finds : GoodIn wsX6_row (wsV RX6 232 RX6 yX6_finds wsX6_finds) := goodIn_app (goodIn_of _ (by decide +kernel)) ggX6_row_X6_finds
theorem dX6_row_0 : decode cX6_row 0 = .ok (.aload_n 0, 1) := by decide +kernel
theorem dX6_row_1 : decode cX6_row 1 = .ok (.iconst 0, 1) := by decide +kernel
theorem dX6_row_2 : decode cX6_row 2 = .ok (.putfield 101, 3) := by decide +kernel
theorem dX6_row_5 : decode cX6_row 5 = .ok (.aload_n 0, 1) := by decide +kernel
theorem dX6_row_6 : decode cX6_row 6 = .ok (.iconst 0, 1) := by decide +kernel
theorem dX6_row_7 : decode cX6_row 7 = .ok (.putfield 105, 3) := by decide +kernel
theorem dX6_row_10 : decode cX6_row 10 = .ok (.aload_n 0, 1) := by decide +kernel
theorem dX6_row_11 : decode cX6_row 11 = .ok (.iload_n 1, 1) := by decide +kernel
theorem dX6_row_12 : decode cX6_row 12 = .ok (.invokevirtual 229, 3) := by decide +kernel
theorem dX6_row_15 : decode cX6_row 15 = .ok (.ifCond .eq 7, 3) := by decide +kernel
theorem dX6_row_18 : decode cX6_row 18 = .ok (.iload_n 1, 1) := by decide +kernel
theorem dX6_row_19 : decode cX6_row 19 = .ok (.ifCond .ne 9, 3) := by decide +kernel
theorem dX6_row_22 : decode cX6_row 22 = .ok (.aload_n 0, 1) := by decide +kernel
theorem dX6_row_23 : decode cX6_row 23 = .ok (.iconst 2, 1) := by decide +kernel
theorem dX6_row_24 : decode cX6_row 24 = .ok (.invokevirtual 115, 3) := by decide +kernel
theorem dX6_row_27 : decode cX6_row 27 = .ok (.ireturn, 1) := by decide +kernel
theorem dX6_row_28 : decode cX6_row 28 = .ok (.aload_n 0, 1) := by decide +kernel
theorem dX6_row_29 : decode cX6_row 29 = .ok (.iload_n 1, 1) := by decide +kernel
theorem dX6_row_30 : decode cX6_row 30 = .ok (.invokevirtual 232, 3) := by decide +kernel
theorem dX6_row_33 : decode cX6_row 33 = .ok (.ifCond .ne 10, 3) := by decide +kernel
theorem dX6_row_36 : decode cX6_row 36 = .ok (.aload_n 0, 1) := by decide +kernel
theorem dX6_row_37 : decode cX6_row 37 = .ok (.bipush 7, 2) := by decide +kernel
theorem dX6_row_39 : decode cX6_row 39 = .ok (.invokevirtual 115, 3) := by decide +kernel
theorem dX6_row_42 : decode cX6_row 42 = .ok (.ireturn, 1) := by decide +kernel
theorem dX6_row_43 : decode cX6_row 43 = .ok (.aload_n 0, 1) := by decide +kernel
theorem dX6_row_44 : decode cX6_row 44 = .ok (.aload_n 0, 1) := by decide +kernel
theorem dX6_row_45 : decode cX6_row 45 = .ok (.getfield 222, 3) := by decide +kernel
theorem dX6_row_48 : decode cX6_row 48 = .ok (.putfield 235, 3) := by decide +kernel
theorem dX6_row_51 : decode cX6_row 51 = .ok (.iconst 0, 1) := by decide +kernel
theorem dX6_row_52 : decode cX6_row 52 = .ok (.istore_n 2, 1) := by decide +kernel
theorem dX6_row_53 : decode cX6_row 53 = .ok (.iload_n 2, 1) := by decide +kernel
theorem dX6_row_54 : decode cX6_row 54 = .ok (.aload_n 0, 1) := by decide +kernel
theorem dX6_row_55 : decode cX6_row 55 = .ok (.getfield 222, 3) := by decide +kernel
theorem dX6_row_58 : decode cX6_row 58 = .ok (.if_icmp .ge 21, 3) := by decide +kernel
theorem dX6_row_61 : decode cX6_row 61 = .ok (.aload_n 0, 1) := by decide +kernel
theorem dX6_row_62 : decode cX6_row 62 = .ok (.getfield 53, 3) := by decide +kernel
theorem dX6_row_65 : decode cX6_row 65 = .ok (.iload_n 2, 1) := by decide +kernel
theorem dX6_row_66 : decode cX6_row 66 = .ok (.aload_n 0, 1) := by decide +kernel
theorem dX6_row_67 : decode cX6_row 67 = .ok (.getfield 56, 3) := by decide +kernel
theorem dX6_row_70 : decode cX6_row 70 = .ok (.iload_n 2, 1) := by decide +kernel
theorem dX6_row_71 : decode cX6_row 71 = .ok (.iaload, 1) := by decide +kernel
theorem dX6_row_72 : decode cX6_row 72 = .ok (.iastore, 1) := by decide +kernel
theorem dX6_row_73 : decode cX6_row 73 = .ok (.iinc 2 1, 3) := by decide +kernel
theorem dX6_row_76 : decode cX6_row 76 = .ok (.goto (-23), 3) := by decide +kernel
theorem dX6_row_79 : decode cX6_row 79 = .ok (.aload_n 0, 1) := by decide +kernel
theorem dX6_row_80 : decode cX6_row 80 = .ok (.getfield 235, 3) := by decide +kernel
theorem dX6_row_83 : decode cX6_row 83 = .ok (.ireturn, 1) := by decide +kernel
set_option maxRecDepth 20000 in
theorem ggX6_ring_X6_isSet : GoodIn wsX6_ring wsX6_isSet := goodIn_r _ [9, 10, 54, 55, 56, 57, 58, 59, 60, 61, 62, 63, 64, 65, 66, 67, 68, 69, 70, 71, 72, 73, 74, 75, 76, 77, 78, 79, 80, 81, 82, 83, 84, 85, 86, 87, 88, 89, 90, 91, 92, 93, 94] (by decide +kernel) (by decide +kernel)
set_option maxRecDepth 20000 in
theorem gX6_ring_X6_isSet : GoodIn wsX6_ring (wsV RX6 229 RX6 yX6_isSet wsX6_isSet) := goodIn_app (goodIn_of _ (by decide +kernel)) ggX6_ring_X6_isSet
set_option maxRecDepth 20000 in
theorem ggX6_ring_X6_refuse : GoodIn wsX6_ring wsX6_refuse := goodIn_r _ [14, 2, 54, 55, 56, 57, 58, 59, 60, 61, 62, 63, 64, 65, 66, 67, 68, 69, 70, 71, 72, 73, 74, 75, 76, 77, 78, 79, 80, 81, 82, 83, 84, 85, 86, 87, 88, 89, 90, 91, 92, 93, 94] (by decide +kernel) (by decide +kernel)
set_option maxRecDepth 20000 in
theorem gX6_ring_X6_refuse : GoodIn wsX6_ring (wsV RX6 115 RX6 yX6_refuse wsX6_refuse) := goodIn_app (goodIn_of _ (by decide +kernel)) ggX6_ring_X6_refuse
set_option maxRecDepth 20000 in
theorem ggX6_ring_X6_finds : GoodIn wsX6_ring wsX6_finds := goodIn_r _ [18, 4, 3, 19, 20, 21, 8, 22, 10, 23, 24, 25, 26, 27, 28, 29, 30, 31, 32, 33, 34, 35, 36, 37, 38, 39, 40, 41, 42, 43, 44, 45, 46, 47, 48, 49, 50, 51, 52, 53, 54, 55, 56, 57, 58, 59, 60, 61, 62, 63, 64, 65, 66, 67, 68, 69, 70, 71, 72, 73, 74, 75, 76, 77, 78, 79, 80, 81, 82, 83, 84, 85, 86, 87, 88, 89, 90, 91, 92, 93, 94] (by decide +kernel) (by decide +kernel)
set_option maxRecDepth 20000 in
theorem gX6_ring_X6_finds : GoodIn wsX6_ring (wsV RX6 232 RX6 yX6_finds wsX6_finds) := goodIn_app (goodIn_of _ (by decide +kernel)) ggX6_ring_X6_finds
set_option maxRecDepth 20000 in
theorem ggX6_ring_X6_rightOf : GoodIn wsX6_ring wsX6_rightOf := goodIn_r _ [44, 45, 54, 55, 56, 57, 58, 59, 60, 61, 62, 63, 64, 65, 66, 67, 68, 69, 70, 71, 72, 73, 74, 75, 76, 77, 78, 79, 80, 81, 82, 83, 84, 85, 86, 87, 88, 89, 90, 91, 92, 93, 94] (by decide +kernel) (by decide +kernel)
set_option maxRecDepth 20000 in
theorem gX6_ring_X6_rightOf : GoodIn wsX6_ring (wsV RX6 204 RX6 yX6_rightOf wsX6_rightOf) := goodIn_app (goodIn_of _ (by decide +kernel)) ggX6_ring_X6_rightOf
set_option maxRecDepth 20000 in
theorem ggX6_ring_X6_leftOf : GoodIn wsX6_ring wsX6_leftOf := goodIn_r _ [39, 40, 54, 55, 56, 57, 58, 59, 60, 61, 62, 63, 64, 65, 66, 67, 68, 69, 70, 71, 72, 73, 74, 75, 76, 77, 78, 79, 80, 81, 82, 83, 84, 85, 86, 87, 88, 89, 90, 91, 92, 93, 94] (by decide +kernel) (by decide +kernel)
set_option maxRecDepth 20000 in
theorem gX6_ring_X6_leftOf : GoodIn wsX6_ring (wsV RX6 201 RX6 yX6_leftOf wsX6_leftOf) := goodIn_app (goodIn_of _ (by decide +kernel)) ggX6_ring_X6_leftOf
theorem dX6_ring_0 : decode cX6_ring 0 = .ok (.aload_n 0, 1) := by decide +kernel
theorem dX6_ring_1 : decode cX6_ring 1 = .ok (.iconst 0, 1) := by decide +kernel
theorem dX6_ring_2 : decode cX6_ring 2 = .ok (.putfield 101, 3) := by decide +kernel
theorem dX6_ring_5 : decode cX6_ring 5 = .ok (.aload_n 0, 1) := by decide +kernel
theorem dX6_ring_6 : decode cX6_ring 6 = .ok (.iconst 0, 1) := by decide +kernel
theorem dX6_ring_7 : decode cX6_ring 7 = .ok (.putfield 105, 3) := by decide +kernel
theorem dX6_ring_10 : decode cX6_ring 10 = .ok (.aload_n 0, 1) := by decide +kernel
theorem dX6_ring_11 : decode cX6_ring 11 = .ok (.iload_n 1, 1) := by decide +kernel
theorem dX6_ring_12 : decode cX6_ring 12 = .ok (.invokevirtual 229, 3) := by decide +kernel
theorem dX6_ring_15 : decode cX6_ring 15 = .ok (.ifCond .eq 7, 3) := by decide +kernel
theorem dX6_ring_18 : decode cX6_ring 18 = .ok (.iload_n 1, 1) := by decide +kernel
theorem dX6_ring_19 : decode cX6_ring 19 = .ok (.ifCond .ne 9, 3) := by decide +kernel
theorem dX6_ring_22 : decode cX6_ring 22 = .ok (.aload_n 0, 1) := by decide +kernel
theorem dX6_ring_23 : decode cX6_ring 23 = .ok (.iconst 2, 1) := by decide +kernel
theorem dX6_ring_24 : decode cX6_ring 24 = .ok (.invokevirtual 115, 3) := by decide +kernel
theorem dX6_ring_27 : decode cX6_ring 27 = .ok (.ireturn, 1) := by decide +kernel
theorem dX6_ring_28 : decode cX6_ring 28 = .ok (.aload_n 0, 1) := by decide +kernel
theorem dX6_ring_29 : decode cX6_ring 29 = .ok (.iload_n 1, 1) := by decide +kernel
theorem dX6_ring_30 : decode cX6_ring 30 = .ok (.invokevirtual 232, 3) := by decide +kernel
theorem dX6_ring_33 : decode cX6_ring 33 = .ok (.ifCond .ne 10, 3) := by decide +kernel
theorem dX6_ring_36 : decode cX6_ring 36 = .ok (.aload_n 0, 1) := by decide +kernel
theorem dX6_ring_37 : decode cX6_ring 37 = .ok (.bipush 7, 2) := by decide +kernel
theorem dX6_ring_39 : decode cX6_ring 39 = .ok (.invokevirtual 115, 3) := by decide +kernel
theorem dX6_ring_42 : decode cX6_ring 42 = .ok (.ireturn, 1) := by decide +kernel
theorem dX6_ring_43 : decode cX6_ring 43 = .ok (.aload_n 0, 1) := by decide +kernel
theorem dX6_ring_44 : decode cX6_ring 44 = .ok (.aload_n 0, 1) := by decide +kernel
theorem dX6_ring_45 : decode cX6_ring 45 = .ok (.getfield 56, 3) := by decide +kernel
theorem dX6_ring_48 : decode cX6_ring 48 = .ok (.aload_n 0, 1) := by decide +kernel
theorem dX6_ring_49 : decode cX6_ring 49 = .ok (.getfield 222, 3) := by decide +kernel
theorem dX6_ring_52 : decode cX6_ring 52 = .ok (.iconst 1, 1) := by decide +kernel
theorem dX6_ring_53 : decode cX6_ring 53 = .ok (.isub, 1) := by decide +kernel
theorem dX6_ring_54 : decode cX6_ring 54 = .ok (.iaload, 1) := by decide +kernel
theorem dX6_ring_55 : decode cX6_ring 55 = .ok (.invokevirtual 204, 3) := by decide +kernel
theorem dX6_ring_58 : decode cX6_ring 58 = .ok (.aload_n 0, 1) := by decide +kernel
theorem dX6_ring_59 : decode cX6_ring 59 = .ok (.aload_n 0, 1) := by decide +kernel
theorem dX6_ring_60 : decode cX6_ring 60 = .ok (.getfield 56, 3) := by decide +kernel
theorem dX6_ring_63 : decode cX6_ring 63 = .ok (.iconst 0, 1) := by decide +kernel
theorem dX6_ring_64 : decode cX6_ring 64 = .ok (.iaload, 1) := by decide +kernel
theorem dX6_ring_65 : decode cX6_ring 65 = .ok (.invokevirtual 201, 3) := by decide +kernel
theorem dX6_ring_68 : decode cX6_ring 68 = .ok (.if_icmp .ne 7, 3) := by decide +kernel
theorem dX6_ring_71 : decode cX6_ring 71 = .ok (.iconst 1, 1) := by decide +kernel
theorem dX6_ring_72 : decode cX6_ring 72 = .ok (.goto 4, 3) := by decide +kernel
theorem dX6_ring_75 : decode cX6_ring 75 = .ok (.iconst 0, 1) := by decide +kernel
theorem dX6_ring_76 : decode cX6_ring 76 = .ok (.ireturn, 1) := by decide +kernel
set_option maxRecDepth 20000 in
theorem ggX6_rows_X6_isSet : GoodIn wsX6_rows wsX6_isSet := goodIn_r _ [14, 3, 44, 45, 46, 47, 48, 49, 50, 51, 52, 53, 54, 55, 56, 57, 58, 59, 60, 61, 62, 63, 64, 65, 66, 67, 68, 69, 70, 71, 72, 73, 74, 75, 76, 77, 78, 79, 80, 81, 82, 83, 84] (by decide +kernel) (by decide +kernel)
set_option maxRecDepth 20000 in
theorem gX6_rows_X6_isSet : GoodIn wsX6_rows (wsV RX6 229 RX6 yX6_isSet wsX6_isSet) := goodIn_app (goodIn_of _ (by decide +kernel)) ggX6_rows_X6_isSet
set_option maxRecDepth 20000 in
theorem ggX6_rows_X6_refuse : GoodIn wsX6_rows wsX6_refuse := goodIn_r _ [18, 2, 44, 45, 46, 47, 48, 49, 50, 51, 52, 53, 54, 55, 56, 57, 58, 59, 60, 61, 62, 63, 64, 65, 66, 67, 68, 69, 70, 71, 72, 73, 74, 75, 76, 77, 78, 79, 80, 81, 82, 83, 84] (by decide +kernel) (by decide +kernel)
set_option maxRecDepth 20000 in
theorem gX6_rows_X6_refuse : GoodIn wsX6_rows (wsV RX6 115 RX6 yX6_refuse wsX6_refuse) := goodIn_app (goodIn_of _ (by decide +kernel)) ggX6_rows_X6_refuse
set_option maxRecDepth 20000 in
theorem ggX6_rows_X6_marks : GoodIn wsX6_rows wsX6_marks := goodIn_r _ [22, 3, 4, 23, 24, 8, 25, 26, 27, 28, 13, 29, 30, 31, 32, 33, 34, 35, 44, 45, 46, 47, 48, 49, 50, 51, 52, 53, 54, 55, 56, 57, 58, 59, 60, 61, 62, 63, 64, 65, 66, 67, 68, 69, 70, 71, 72, 73, 74, 75, 76, 77, 78, 79, 80, 81, 82, 83, 84] (by decide +kernel) (by decide +kernel)
set_option maxRecDepth 20000 in
theorem gX6_rows_X6_marks : GoodIn wsX6_rows (wsV RX6 211 RX6 yX6_marks wsX6_marks) := goodIn_app (goodIn_of _ (by decide +kernel)) ggX6_rows_X6_marks
set_option maxRecDepth 20000 in
theorem ggX6_rows_X6_counts : GoodIn wsX6_rows wsX6_counts := goodIn_r _ [39, 5, 3, 26, 27, 28, 13, 29, 30, 31, 32, 33, 34, 35, 44, 45, 46, 47, 48, 49, 50, 51, 52, 53, 54, 55, 56, 57, 58, 59, 60, 61, 62, 63, 64, 65, 66, 67, 68, 69, 70, 71, 72, 73, 74, 75, 76, 77, 78, 79, 80, 81, 82, 83, 84] (by decide +kernel) (by decide +kernel)
set_option maxRecDepth 20000 in
theorem gX6_rows_X6_counts : GoodIn wsX6_rows (wsV RX6 214 RX6 yX6_counts wsX6_counts) := goodIn_app (goodIn_of _ (by decide +kernel)) ggX6_rows_X6_counts
set_option maxRecDepth 20000 in
theorem ggX6_rows_X6_leftOf : GoodIn wsX6_rows wsX6_leftOf := goodIn_r _ [29, 30, 44, 45, 46, 47, 48, 49, 50, 51, 52, 53, 54, 55, 56, 57, 58, 59, 60, 61, 62, 63, 64, 65, 66, 67, 68, 69, 70, 71, 72, 73, 74, 75, 76, 77, 78, 79, 80, 81, 82, 83, 84] (by decide +kernel) (by decide +kernel)
set_option maxRecDepth 20000 in
theorem gX6_rows_X6_leftOf : GoodIn wsX6_rows (wsV RX6 201 RX6 yX6_leftOf wsX6_leftOf) := goodIn_app (goodIn_of _ (by decide +kernel)) ggX6_rows_X6_leftOf
set_option maxRecDepth 20000 in
theorem ggX6_rows_X6_isEdge : GoodIn wsX6_rows wsX6_isEdge := goodIn_r _ [43, 3, 26, 27, 28, 13, 29, 30, 31, 32, 33, 34, 35, 44, 45, 46, 47, 48, 49, 50, 51, 52, 53, 54, 55, 56, 57, 58, 59, 60, 61, 62, 63, 64, 65, 66, 67, 68, 69, 70, 71, 72, 73, 74, 75, 76, 77, 78, 79, 80, 81, 82, 83, 84] (by decide +kernel) (by decide +kernel)
set_option maxRecDepth 20000 in
theorem gX6_rows_X6_isEdge : GoodIn wsX6_rows (wsV RX6 238 RX6 yX6_isEdge wsX6_isEdge) := goodIn_app (goodIn_of _ (by decide +kernel)) ggX6_rows_X6_isEdge
theorem dX6_rows_0 : decode cX6_rows 0 = .ok (.aload_n 0, 1) := by decide +kernel
theorem dX6_rows_1 : decode cX6_rows 1 = .ok (.iconst 0, 1) := by decide +kernel
theorem dX6_rows_2 : decode cX6_rows 2 = .ok (.putfield 101, 3) := by decide +kernel
theorem dX6_rows_5 : decode cX6_rows 5 = .ok (.aload_n 0, 1) := by decide +kernel
theorem dX6_rows_6 : decode cX6_rows 6 = .ok (.iconst 0, 1) := by decide +kernel
theorem dX6_rows_7 : decode cX6_rows 7 = .ok (.putfield 105, 3) := by decide +kernel
theorem dX6_rows_10 : decode cX6_rows 10 = .ok (.aload_n 0, 1) := by decide +kernel
theorem dX6_rows_11 : decode cX6_rows 11 = .ok (.iload_n 1, 1) := by decide +kernel
theorem dX6_rows_12 : decode cX6_rows 12 = .ok (.invokevirtual 229, 3) := by decide +kernel
theorem dX6_rows_15 : decode cX6_rows 15 = .ok (.ifCond .ne 9, 3) := by decide +kernel
theorem dX6_rows_18 : decode cX6_rows 18 = .ok (.aload_n 0, 1) := by decide +kernel
theorem dX6_rows_19 : decode cX6_rows 19 = .ok (.iconst 2, 1) := by decide +kernel
theorem dX6_rows_20 : decode cX6_rows 20 = .ok (.invokevirtual 115, 3) := by decide +kernel
theorem dX6_rows_23 : decode cX6_rows 23 = .ok (.ireturn, 1) := by decide +kernel
theorem dX6_rows_24 : decode cX6_rows 24 = .ok (.aload_n 0, 1) := by decide +kernel
theorem dX6_rows_25 : decode cX6_rows 25 = .ok (.iload_n 1, 1) := by decide +kernel
theorem dX6_rows_26 : decode cX6_rows 26 = .ok (.invokevirtual 211, 3) := by decide +kernel
theorem dX6_rows_29 : decode cX6_rows 29 = .ok (.aload_n 0, 1) := by decide +kernel
theorem dX6_rows_30 : decode cX6_rows 30 = .ok (.iload_n 1, 1) := by decide +kernel
theorem dX6_rows_31 : decode cX6_rows 31 = .ok (.invokevirtual 214, 3) := by decide +kernel
theorem dX6_rows_34 : decode cX6_rows 34 = .ok (.iconst 0, 1) := by decide +kernel
theorem dX6_rows_35 : decode cX6_rows 35 = .ok (.istore_n 2, 1) := by decide +kernel
theorem dX6_rows_36 : decode cX6_rows 36 = .ok (.iconst 0, 1) := by decide +kernel
theorem dX6_rows_37 : decode cX6_rows 37 = .ok (.istore_n 3, 1) := by decide +kernel
theorem dX6_rows_38 : decode cX6_rows 38 = .ok (.iload_n 3, 1) := by decide +kernel
theorem dX6_rows_39 : decode cX6_rows 39 = .ok (.sipush 300, 3) := by decide +kernel
theorem dX6_rows_42 : decode cX6_rows 42 = .ok (.if_icmp .ge 145, 3) := by decide +kernel
theorem dX6_rows_45 : decode cX6_rows 45 = .ok (.iconst 0, 1) := by decide +kernel
theorem dX6_rows_46 : decode cX6_rows 46 = .ok (.istore 4, 2) := by decide +kernel
theorem dX6_rows_48 : decode cX6_rows 48 = .ok (.iconst 0, 1) := by decide +kernel
theorem dX6_rows_49 : decode cX6_rows 49 = .ok (.istore 5, 2) := by decide +kernel
theorem dX6_rows_51 : decode cX6_rows 51 = .ok (.iconst 0, 1) := by decide +kernel
theorem dX6_rows_52 : decode cX6_rows 52 = .ok (.istore 6, 2) := by decide +kernel
theorem dX6_rows_54 : decode cX6_rows 54 = .ok (.iload 6, 2) := by decide +kernel
theorem dX6_rows_56 : decode cX6_rows 56 = .ok (.aload_n 0, 1) := by decide +kernel
theorem dX6_rows_57 : decode cX6_rows 57 = .ok (.getfield 108, 3) := by decide +kernel
theorem dX6_rows_60 : decode cX6_rows 60 = .ok (.if_icmp .ge 46, 3) := by decide +kernel
theorem dX6_rows_63 : decode cX6_rows 63 = .ok (.iload 5, 2) := by decide +kernel
theorem dX6_rows_65 : decode cX6_rows 65 = .ok (.ifCond .ne 28, 3) := by decide +kernel
theorem dX6_rows_68 : decode cX6_rows 68 = .ok (.iload_n 1, 1) := by decide +kernel
theorem dX6_rows_69 : decode cX6_rows 69 = .ok (.iload 6, 2) := by decide +kernel
theorem dX6_rows_71 : decode cX6_rows 71 = .ok (.ishr, 1) := by decide +kernel
theorem dX6_rows_72 : decode cX6_rows 72 = .ok (.iconst 1, 1) := by decide +kernel
theorem dX6_rows_73 : decode cX6_rows 73 = .ok (.iand, 1) := by decide +kernel
theorem dX6_rows_74 : decode cX6_rows 74 = .ok (.iconst 1, 1) := by decide +kernel
theorem dX6_rows_75 : decode cX6_rows 75 = .ok (.if_icmp .ne 22, 3) := by decide +kernel
theorem dX6_rows_78 : decode cX6_rows 78 = .ok (.aload_n 0, 1) := by decide +kernel
theorem dX6_rows_79 : decode cX6_rows 79 = .ok (.getfield 62, 3) := by decide +kernel
theorem dX6_rows_82 : decode cX6_rows 82 = .ok (.aload_n 0, 1) := by decide +kernel
theorem dX6_rows_83 : decode cX6_rows 83 = .ok (.iload 6, 2) := by decide +kernel
theorem dX6_rows_85 : decode cX6_rows 85 = .ok (.invokevirtual 201, 3) := by decide +kernel
theorem dX6_rows_88 : decode cX6_rows 88 = .ok (.iaload, 1) := by decide +kernel
theorem dX6_rows_89 : decode cX6_rows 89 = .ok (.iload_n 3, 1) := by decide +kernel
theorem dX6_rows_90 : decode cX6_rows 90 = .ok (.if_icmp .ne 7, 3) := by decide +kernel
theorem dX6_rows_93 : decode cX6_rows 93 = .ok (.iconst 1, 1) := by decide +kernel
theorem dX6_rows_94 : decode cX6_rows 94 = .ok (.goto 4, 3) := by decide +kernel
theorem dX6_rows_97 : decode cX6_rows 97 = .ok (.iconst 0, 1) := by decide +kernel
theorem dX6_rows_98 : decode cX6_rows 98 = .ok (.istore 5, 2) := by decide +kernel
theorem dX6_rows_100 : decode cX6_rows 100 = .ok (.iinc 6 1, 3) := by decide +kernel
theorem dX6_rows_103 : decode cX6_rows 103 = .ok (.goto (-49), 3) := by decide +kernel
theorem dX6_rows_106 : decode cX6_rows 106 = .ok (.iload 5, 2) := by decide +kernel
theorem dX6_rows_108 : decode cX6_rows 108 = .ok (.ifCond .ne 6, 3) := by decide +kernel
theorem dX6_rows_111 : decode cX6_rows 111 = .ok (.goto 70, 3) := by decide +kernel
theorem dX6_rows_114 : decode cX6_rows 114 = .ok (.iconst 0, 1) := by decide +kernel
theorem dX6_rows_115 : decode cX6_rows 115 = .ok (.istore 6, 2) := by decide +kernel
theorem dX6_rows_117 : decode cX6_rows 117 = .ok (.iload 6, 2) := by decide +kernel
theorem dX6_rows_119 : decode cX6_rows 119 = .ok (.sipush 300, 3) := by decide +kernel
theorem dX6_rows_122 : decode cX6_rows 122 = .ok (.if_icmp .ge 50, 3) := by decide +kernel
theorem dX6_rows_125 : decode cX6_rows 125 = .ok (.iload 4, 2) := by decide +kernel
theorem dX6_rows_127 : decode cX6_rows 127 = .ok (.aload_n 0, 1) := by decide +kernel
theorem dX6_rows_128 : decode cX6_rows 128 = .ok (.iload_n 1, 1) := by decide +kernel
theorem dX6_rows_129 : decode cX6_rows 129 = .ok (.iload 6, 2) := by decide +kernel
theorem dX6_rows_131 : decode cX6_rows 131 = .ok (.invokevirtual 238, 3) := by decide +kernel
theorem dX6_rows_134 : decode cX6_rows 134 = .ok (.ifCond .eq 28, 3) := by decide +kernel
theorem dX6_rows_137 : decode cX6_rows 137 = .ok (.aload_n 0, 1) := by decide +kernel
theorem dX6_rows_138 : decode cX6_rows 138 = .ok (.getfield 62, 3) := by decide +kernel
theorem dX6_rows_141 : decode cX6_rows 141 = .ok (.iload 6, 2) := by decide +kernel
theorem dX6_rows_143 : decode cX6_rows 143 = .ok (.iaload, 1) := by decide +kernel
theorem dX6_rows_144 : decode cX6_rows 144 = .ok (.iload_n 3, 1) := by decide +kernel
theorem dX6_rows_145 : decode cX6_rows 145 = .ok (.if_icmp .ne 17, 3) := by decide +kernel
theorem dX6_rows_148 : decode cX6_rows 148 = .ok (.iconst 0, 1) := by decide +kernel
theorem dX6_rows_149 : decode cX6_rows 149 = .ok (.aload_n 0, 1) := by decide +kernel
theorem dX6_rows_150 : decode cX6_rows 150 = .ok (.getfield 59, 3) := by decide +kernel
theorem dX6_rows_153 : decode cX6_rows 153 = .ok (.iload 6, 2) := by decide +kernel
theorem dX6_rows_155 : decode cX6_rows 155 = .ok (.iaload, 1) := by decide +kernel
theorem dX6_rows_156 : decode cX6_rows 156 = .ok (.invokestatic 217, 3) := by decide +kernel
theorem dX6_rows_159 : decode cX6_rows 159 = .ok (.goto 4, 3) := by decide +kernel
theorem dX6_rows_162 : decode cX6_rows 162 = .ok (.iconst 0, 1) := by decide +kernel
theorem dX6_rows_163 : decode cX6_rows 163 = .ok (.iadd, 1) := by decide +kernel
theorem dX6_rows_164 : decode cX6_rows 164 = .ok (.istore 4, 2) := by decide +kernel
theorem dX6_rows_166 : decode cX6_rows 166 = .ok (.iinc 6 1, 3) := by decide +kernel
theorem dX6_rows_169 : decode cX6_rows 169 = .ok (.goto (-52), 3) := by decide +kernel
theorem dX6_rows_172 : decode cX6_rows 172 = .ok (.iload_n 2, 1) := by decide +kernel
theorem dX6_rows_173 : decode cX6_rows 173 = .ok (.iconst 1, 1) := by decide +kernel
theorem dX6_rows_174 : decode cX6_rows 174 = .ok (.iload 4, 2) := by decide +kernel
theorem dX6_rows_176 : decode cX6_rows 176 = .ok (.invokestatic 217, 3) := by decide +kernel
theorem dX6_rows_179 : decode cX6_rows 179 = .ok (.iadd, 1) := by decide +kernel
theorem dX6_rows_180 : decode cX6_rows 180 = .ok (.istore_n 2, 1) := by decide +kernel
theorem dX6_rows_181 : decode cX6_rows 181 = .ok (.iinc 3 1, 3) := by decide +kernel
theorem dX6_rows_184 : decode cX6_rows 184 = .ok (.goto (-146), 3) := by decide +kernel
theorem dX6_rows_187 : decode cX6_rows 187 = .ok (.iload_n 2, 1) := by decide +kernel
theorem dX6_rows_188 : decode cX6_rows 188 = .ok (.ireturn, 1) := by decide +kernel
set_option maxRecDepth 20000 in
theorem ggX6_isEdge_X6_leftOf : GoodIn wsX6_isEdge wsX6_leftOf := goodIn_r _ [6, 7, 13, 14, 15, 16, 17, 18, 19, 20, 21, 22, 23, 24, 25, 26, 27, 28, 29, 30, 31, 32, 33, 34, 35, 36, 37, 38, 39, 40, 41, 42, 43, 44, 45, 46, 47, 48, 49, 50, 51, 52, 53] (by decide +kernel) (by decide +kernel)
set_option maxRecDepth 20000 in
theorem gX6_isEdge_X6_leftOf : GoodIn wsX6_isEdge (wsV RX6 201 RX6 yX6_leftOf wsX6_leftOf) := goodIn_app (goodIn_of _ (by decide +kernel)) ggX6_isEdge_X6_leftOf
set_option maxRecDepth 20000 in
theorem ggX6_isEdge_X6_rightOf : GoodIn wsX6_isEdge wsX6_rightOf := goodIn_r _ [11, 12, 13, 14, 15, 16, 17, 18, 19, 20, 21, 22, 23, 24, 25, 26, 27, 28, 29, 30, 31, 32, 33, 34, 35, 36, 37, 38, 39, 40, 41, 42, 43, 44, 45, 46, 47, 48, 49, 50, 51, 52, 53] (by decide +kernel) (by decide +kernel)
set_option maxRecDepth 20000 in
theorem gX6_isEdge_X6_rightOf : GoodIn wsX6_isEdge (wsV RX6 204 RX6 yX6_rightOf wsX6_rightOf) := goodIn_app (goodIn_of _ (by decide +kernel)) ggX6_isEdge_X6_rightOf
theorem dX6_isEdge_0 : decode cX6_isEdge 0 = .ok (.iconst 0, 1) := by decide +kernel
theorem dX6_isEdge_1 : decode cX6_isEdge 1 = .ok (.istore_n 3, 1) := by decide +kernel
theorem dX6_isEdge_2 : decode cX6_isEdge 2 = .ok (.iload_n 3, 1) := by decide +kernel
theorem dX6_isEdge_3 : decode cX6_isEdge 3 = .ok (.aload_n 0, 1) := by decide +kernel
theorem dX6_isEdge_4 : decode cX6_isEdge 4 = .ok (.getfield 108, 3) := by decide +kernel
theorem dX6_isEdge_7 : decode cX6_isEdge 7 = .ok (.if_icmp .ge 38, 3) := by decide +kernel
theorem dX6_isEdge_10 : decode cX6_isEdge 10 = .ok (.iload_n 1, 1) := by decide +kernel
theorem dX6_isEdge_11 : decode cX6_isEdge 11 = .ok (.iload_n 3, 1) := by decide +kernel
theorem dX6_isEdge_12 : decode cX6_isEdge 12 = .ok (.ishr, 1) := by decide +kernel
theorem dX6_isEdge_13 : decode cX6_isEdge 13 = .ok (.iconst 1, 1) := by decide +kernel
theorem dX6_isEdge_14 : decode cX6_isEdge 14 = .ok (.iand, 1) := by decide +kernel
theorem dX6_isEdge_15 : decode cX6_isEdge 15 = .ok (.iconst 1, 1) := by decide +kernel
theorem dX6_isEdge_16 : decode cX6_isEdge 16 = .ok (.if_icmp .ne 23, 3) := by decide +kernel
theorem dX6_isEdge_19 : decode cX6_isEdge 19 = .ok (.aload_n 0, 1) := by decide +kernel
theorem dX6_isEdge_20 : decode cX6_isEdge 20 = .ok (.iload_n 3, 1) := by decide +kernel
theorem dX6_isEdge_21 : decode cX6_isEdge 21 = .ok (.invokevirtual 201, 3) := by decide +kernel
theorem dX6_isEdge_24 : decode cX6_isEdge 24 = .ok (.iload_n 2, 1) := by decide +kernel
theorem dX6_isEdge_25 : decode cX6_isEdge 25 = .ok (.if_icmp .eq 12, 3) := by decide +kernel
theorem dX6_isEdge_28 : decode cX6_isEdge 28 = .ok (.aload_n 0, 1) := by decide +kernel
theorem dX6_isEdge_29 : decode cX6_isEdge 29 = .ok (.iload_n 3, 1) := by decide +kernel
theorem dX6_isEdge_30 : decode cX6_isEdge 30 = .ok (.invokevirtual 204, 3) := by decide +kernel
theorem dX6_isEdge_33 : decode cX6_isEdge 33 = .ok (.iload_n 2, 1) := by decide +kernel
theorem dX6_isEdge_34 : decode cX6_isEdge 34 = .ok (.if_icmp .ne 5, 3) := by decide +kernel
theorem dX6_isEdge_37 : decode cX6_isEdge 37 = .ok (.iconst 1, 1) := by decide +kernel
theorem dX6_isEdge_38 : decode cX6_isEdge 38 = .ok (.ireturn, 1) := by decide +kernel
theorem dX6_isEdge_39 : decode cX6_isEdge 39 = .ok (.iinc 3 1, 3) := by decide +kernel
theorem dX6_isEdge_42 : decode cX6_isEdge 42 = .ok (.goto (-40), 3) := by decide +kernel
theorem dX6_isEdge_45 : decode cX6_isEdge 45 = .ok (.iconst 0, 1) := by decide +kernel
theorem dX6_isEdge_46 : decode cX6_isEdge 46 = .ok (.ireturn, 1) := by decide +kernel
theorem dX6_out_0 : decode cX6_out 0 = .ok (.aload_n 0, 1) := by decide +kernel
theorem dX6_out_1 : decode cX6_out 1 = .ok (.iconst 0, 1) := by decide +kernel
theorem dX6_out_2 : decode cX6_out 2 = .ok (.putfield 101, 3) := by decide +kernel
theorem dX6_out_5 : decode cX6_out 5 = .ok (.iload_n 1, 1) := by decide +kernel
theorem dX6_out_6 : decode cX6_out 6 = .ok (.ifCond .lt 20, 3) := by decide +kernel
theorem dX6_out_9 : decode cX6_out 9 = .ok (.iload_n 1, 1) := by decide +kernel
theorem dX6_out_10 : decode cX6_out 10 = .ok (.aload_n 0, 1) := by decide +kernel
theorem dX6_out_11 : decode cX6_out 11 = .ok (.getfield 235, 3) := by decide +kernel
theorem dX6_out_14 : decode cX6_out 14 = .ok (.if_icmp .ge 12, 3) := by decide +kernel
theorem dX6_out_17 : decode cX6_out 17 = .ok (.aload_n 0, 1) := by decide +kernel
theorem dX6_out_18 : decode cX6_out 18 = .ok (.getfield 53, 3) := by decide +kernel
theorem dX6_out_21 : decode cX6_out 21 = .ok (.iload_n 1, 1) := by decide +kernel
theorem dX6_out_22 : decode cX6_out 22 = .ok (.iaload, 1) := by decide +kernel
theorem dX6_out_23 : decode cX6_out 23 = .ok (.goto 4, 3) := by decide +kernel
theorem dX6_out_26 : decode cX6_out 26 = .ok (.iconst (-1), 1) := by decide +kernel
theorem dX6_out_27 : decode cX6_out 27 = .ok (.ireturn, 1) := by decide +kernel
set_option maxRecDepth 20000 in
theorem ggX6_want_X6_isPlate : GoodIn wsX6_want wsX6_isPlate := goodIn_r _ [10, 11, 16, 17, 18, 19, 20, 21, 22, 23, 24, 25, 26, 27, 28, 29, 30, 31, 32, 33, 34, 35, 36, 37, 38, 39, 40, 41, 42, 43, 44, 45, 46, 47, 48, 49, 50, 51, 52, 53, 54, 55, 56] (by decide +kernel) (by decide +kernel)
set_option maxRecDepth 20000 in
theorem gX6_want_X6_isPlate : GoodIn wsX6_want (wsV RX6 122 RX6 yX6_isPlate wsX6_isPlate) := goodIn_app (goodIn_of _ (by decide +kernel)) ggX6_want_X6_isPlate
set_option maxRecDepth 20000 in
theorem ggX6_want_X6_no : GoodIn wsX6_want wsX6_no := goodIn_r _ [15, 2, 16, 17, 18, 19, 20, 21, 22, 23, 24, 25, 26, 27, 28, 29, 30, 31, 32, 33, 34, 35, 36, 37, 38, 39, 40, 41, 42, 43, 44, 45, 46, 47, 48, 49, 50, 51, 52, 53, 54, 55, 56] (by decide +kernel) (by decide +kernel)
set_option maxRecDepth 20000 in
theorem gX6_want_X6_no : GoodIn wsX6_want (wsV RX6 143 RX6 yX6_no wsX6_no) := goodIn_app (goodIn_of _ (by decide +kernel)) ggX6_want_X6_no
theorem dX6_want_0 : decode cX6_want 0 = .ok (.aload_n 0, 1) := by decide +kernel
theorem dX6_want_1 : decode cX6_want 1 = .ok (.iconst 0, 1) := by decide +kernel
theorem dX6_want_2 : decode cX6_want 2 = .ok (.putfield 101, 3) := by decide +kernel
theorem dX6_want_5 : decode cX6_want 5 = .ok (.aload_n 0, 1) := by decide +kernel
theorem dX6_want_6 : decode cX6_want 6 = .ok (.iconst 0, 1) := by decide +kernel
theorem dX6_want_7 : decode cX6_want 7 = .ok (.putfield 105, 3) := by decide +kernel
theorem dX6_want_10 : decode cX6_want 10 = .ok (.aload_n 0, 1) := by decide +kernel
theorem dX6_want_11 : decode cX6_want 11 = .ok (.iload_n 1, 1) := by decide +kernel
theorem dX6_want_12 : decode cX6_want 12 = .ok (.invokevirtual 122, 3) := by decide +kernel
theorem dX6_want_15 : decode cX6_want 15 = .ok (.ifCond .ne 9, 3) := by decide +kernel
theorem dX6_want_18 : decode cX6_want 18 = .ok (.aload_n 0, 1) := by decide +kernel
theorem dX6_want_19 : decode cX6_want 19 = .ok (.iconst 1, 1) := by decide +kernel
theorem dX6_want_20 : decode cX6_want 20 = .ok (.invokevirtual 143, 3) := by decide +kernel
theorem dX6_want_23 : decode cX6_want 23 = .ok (.ireturn, 1) := by decide +kernel
theorem dX6_want_24 : decode cX6_want 24 = .ok (.iload_n 2, 1) := by decide +kernel
theorem dX6_want_25 : decode cX6_want 25 = .ok (.ifCond .lt 34, 3) := by decide +kernel
theorem dX6_want_28 : decode cX6_want 28 = .ok (.iload_n 2, 1) := by decide +kernel
theorem dX6_want_29 : decode cX6_want 29 = .ok (.bipush 99, 2) := by decide +kernel
theorem dX6_want_31 : decode cX6_want 31 = .ok (.if_icmp .gt 28, 3) := by decide +kernel
theorem dX6_want_34 : decode cX6_want 34 = .ok (.iload_n 3, 1) := by decide +kernel
theorem dX6_want_35 : decode cX6_want 35 = .ok (.iconst 1, 1) := by decide +kernel
theorem dX6_want_36 : decode cX6_want 36 = .ok (.if_icmp .lt 23, 3) := by decide +kernel
theorem dX6_want_39 : decode cX6_want 39 = .ok (.iload_n 3, 1) := by decide +kernel
theorem dX6_want_40 : decode cX6_want 40 = .ok (.bipush 50, 2) := by decide +kernel
theorem dX6_want_42 : decode cX6_want 42 = .ok (.if_icmp .gt 17, 3) := by decide +kernel
theorem dX6_want_45 : decode cX6_want 45 = .ok (.iload 4, 2) := by decide +kernel
theorem dX6_want_47 : decode cX6_want 47 = .ok (.iconst 1, 1) := by decide +kernel
theorem dX6_want_48 : decode cX6_want 48 = .ok (.if_icmp .lt 11, 3) := by decide +kernel
theorem dX6_want_51 : decode cX6_want 51 = .ok (.iload 4, 2) := by decide +kernel
theorem dX6_want_53 : decode cX6_want 53 = .ok (.sipush 500, 3) := by decide +kernel
theorem dX6_want_56 : decode cX6_want 56 = .ok (.if_icmp .le 9, 3) := by decide +kernel
theorem dX6_want_59 : decode cX6_want 59 = .ok (.aload_n 0, 1) := by decide +kernel
theorem dX6_want_60 : decode cX6_want 60 = .ok (.iconst 2, 1) := by decide +kernel
theorem dX6_want_61 : decode cX6_want 61 = .ok (.invokevirtual 143, 3) := by decide +kernel
theorem dX6_want_64 : decode cX6_want 64 = .ok (.ireturn, 1) := by decide +kernel
theorem dX6_want_65 : decode cX6_want 65 = .ok (.aload_n 0, 1) := by decide +kernel
theorem dX6_want_66 : decode cX6_want 66 = .ok (.getfield 65, 3) := by decide +kernel
theorem dX6_want_69 : decode cX6_want 69 = .ok (.iload_n 1, 1) := by decide +kernel
theorem dX6_want_70 : decode cX6_want 70 = .ok (.iload_n 2, 1) := by decide +kernel
theorem dX6_want_71 : decode cX6_want 71 = .ok (.iastore, 1) := by decide +kernel
theorem dX6_want_72 : decode cX6_want 72 = .ok (.aload_n 0, 1) := by decide +kernel
theorem dX6_want_73 : decode cX6_want 73 = .ok (.getfield 68, 3) := by decide +kernel
theorem dX6_want_76 : decode cX6_want 76 = .ok (.iload_n 1, 1) := by decide +kernel
theorem dX6_want_77 : decode cX6_want 77 = .ok (.iload_n 3, 1) := by decide +kernel
theorem dX6_want_78 : decode cX6_want 78 = .ok (.iastore, 1) := by decide +kernel
theorem dX6_want_79 : decode cX6_want 79 = .ok (.aload_n 0, 1) := by decide +kernel
theorem dX6_want_80 : decode cX6_want 80 = .ok (.getfield 71, 3) := by decide +kernel
theorem dX6_want_83 : decode cX6_want 83 = .ok (.iload_n 1, 1) := by decide +kernel
theorem dX6_want_84 : decode cX6_want 84 = .ok (.iload 4, 2) := by decide +kernel
theorem dX6_want_86 : decode cX6_want 86 = .ok (.iastore, 1) := by decide +kernel
theorem dX6_want_87 : decode cX6_want 87 = .ok (.iconst 1, 1) := by decide +kernel
theorem dX6_want_88 : decode cX6_want 88 = .ok (.ireturn, 1) := by decide +kernel
theorem dX6_orders_0 : decode cX6_orders 0 = .ok (.iconst 0, 1) := by decide +kernel
theorem dX6_orders_1 : decode cX6_orders 1 = .ok (.istore_n 1, 1) := by decide +kernel
theorem dX6_orders_2 : decode cX6_orders 2 = .ok (.iload_n 1, 1) := by decide +kernel
theorem dX6_orders_3 : decode cX6_orders 3 = .ok (.aload_n 0, 1) := by decide +kernel
theorem dX6_orders_4 : decode cX6_orders 4 = .ok (.getfield 108, 3) := by decide +kernel
theorem dX6_orders_7 : decode cX6_orders 7 = .ok (.if_icmp .ge 64, 3) := by decide +kernel
theorem dX6_orders_10 : decode cX6_orders 10 = .ok (.iload_n 1, 1) := by decide +kernel
theorem dX6_orders_11 : decode cX6_orders 11 = .ok (.istore_n 2, 1) := by decide +kernel
theorem dX6_orders_12 : decode cX6_orders 12 = .ok (.iload_n 2, 1) := by decide +kernel
theorem dX6_orders_13 : decode cX6_orders 13 = .ok (.ifCond .le 45, 3) := by decide +kernel
theorem dX6_orders_16 : decode cX6_orders 16 = .ok (.aload_n 0, 1) := by decide +kernel
theorem dX6_orders_17 : decode cX6_orders 17 = .ok (.getfield 71, 3) := by decide +kernel
theorem dX6_orders_20 : decode cX6_orders 20 = .ok (.aload_n 0, 1) := by decide +kernel
theorem dX6_orders_21 : decode cX6_orders 21 = .ok (.getfield 74, 3) := by decide +kernel
theorem dX6_orders_24 : decode cX6_orders 24 = .ok (.iload_n 2, 1) := by decide +kernel
theorem dX6_orders_25 : decode cX6_orders 25 = .ok (.iconst 1, 1) := by decide +kernel
theorem dX6_orders_26 : decode cX6_orders 26 = .ok (.isub, 1) := by decide +kernel
theorem dX6_orders_27 : decode cX6_orders 27 = .ok (.iaload, 1) := by decide +kernel
theorem dX6_orders_28 : decode cX6_orders 28 = .ok (.iaload, 1) := by decide +kernel
theorem dX6_orders_29 : decode cX6_orders 29 = .ok (.aload_n 0, 1) := by decide +kernel
theorem dX6_orders_30 : decode cX6_orders 30 = .ok (.getfield 71, 3) := by decide +kernel
theorem dX6_orders_33 : decode cX6_orders 33 = .ok (.iload_n 1, 1) := by decide +kernel
theorem dX6_orders_34 : decode cX6_orders 34 = .ok (.iaload, 1) := by decide +kernel
theorem dX6_orders_35 : decode cX6_orders 35 = .ok (.if_icmp .le 23, 3) := by decide +kernel
theorem dX6_orders_38 : decode cX6_orders 38 = .ok (.aload_n 0, 1) := by decide +kernel
theorem dX6_orders_39 : decode cX6_orders 39 = .ok (.getfield 74, 3) := by decide +kernel
theorem dX6_orders_42 : decode cX6_orders 42 = .ok (.iload_n 2, 1) := by decide +kernel
theorem dX6_orders_43 : decode cX6_orders 43 = .ok (.aload_n 0, 1) := by decide +kernel
theorem dX6_orders_44 : decode cX6_orders 44 = .ok (.getfield 74, 3) := by decide +kernel
theorem dX6_orders_47 : decode cX6_orders 47 = .ok (.iload_n 2, 1) := by decide +kernel
theorem dX6_orders_48 : decode cX6_orders 48 = .ok (.iconst 1, 1) := by decide +kernel
theorem dX6_orders_49 : decode cX6_orders 49 = .ok (.isub, 1) := by decide +kernel
theorem dX6_orders_50 : decode cX6_orders 50 = .ok (.iaload, 1) := by decide +kernel
theorem dX6_orders_51 : decode cX6_orders 51 = .ok (.iastore, 1) := by decide +kernel
theorem dX6_orders_52 : decode cX6_orders 52 = .ok (.iinc 2 (-1), 3) := by decide +kernel
theorem dX6_orders_55 : decode cX6_orders 55 = .ok (.goto (-43), 3) := by decide +kernel
theorem dX6_orders_58 : decode cX6_orders 58 = .ok (.aload_n 0, 1) := by decide +kernel
theorem dX6_orders_59 : decode cX6_orders 59 = .ok (.getfield 74, 3) := by decide +kernel
theorem dX6_orders_62 : decode cX6_orders 62 = .ok (.iload_n 2, 1) := by decide +kernel
theorem dX6_orders_63 : decode cX6_orders 63 = .ok (.iload_n 1, 1) := by decide +kernel
theorem dX6_orders_64 : decode cX6_orders 64 = .ok (.iastore, 1) := by decide +kernel
theorem dX6_orders_65 : decode cX6_orders 65 = .ok (.iinc 1 1, 3) := by decide +kernel
theorem dX6_orders_68 : decode cX6_orders 68 = .ok (.goto (-66), 3) := by decide +kernel
theorem dX6_orders_71 : decode cX6_orders 71 = .ok (.return_, 1) := by decide +kernel
theorem dX6_mostOf_0 : decode cX6_mostOf 0 = .ok (.iconst 0, 1) := by decide +kernel
theorem dX6_mostOf_1 : decode cX6_mostOf 1 = .ok (.istore_n 1, 1) := by decide +kernel
theorem dX6_mostOf_2 : decode cX6_mostOf 2 = .ok (.iload_n 1, 1) := by decide +kernel
theorem dX6_mostOf_3 : decode cX6_mostOf 3 = .ok (.sipush 500, 3) := by decide +kernel
theorem dX6_mostOf_6 : decode cX6_mostOf 6 = .ok (.if_icmp .gt 24, 3) := by decide +kernel
theorem dX6_mostOf_9 : decode cX6_mostOf 9 = .ok (.aload_n 0, 1) := by decide +kernel
theorem dX6_mostOf_10 : decode cX6_mostOf 10 = .ok (.getfield 80, 3) := by decide +kernel
theorem dX6_mostOf_13 : decode cX6_mostOf 13 = .ok (.iload_n 1, 1) := by decide +kernel
theorem dX6_mostOf_14 : decode cX6_mostOf 14 = .ok (.iload_n 1, 1) := by decide +kernel
theorem dX6_mostOf_15 : decode cX6_mostOf 15 = .ok (.ifCond .ne 7, 3) := by decide +kernel
theorem dX6_mostOf_18 : decode cX6_mostOf 18 = .ok (.iconst 0, 1) := by decide +kernel
theorem dX6_mostOf_19 : decode cX6_mostOf 19 = .ok (.goto 4, 3) := by decide +kernel
theorem dX6_mostOf_22 : decode cX6_mostOf 22 = .ok (.iconst (-1), 1) := by decide +kernel
theorem dX6_mostOf_23 : decode cX6_mostOf 23 = .ok (.iastore, 1) := by decide +kernel
theorem dX6_mostOf_24 : decode cX6_mostOf 24 = .ok (.iinc 1 1, 3) := by decide +kernel
theorem dX6_mostOf_27 : decode cX6_mostOf 27 = .ok (.goto (-25), 3) := by decide +kernel
theorem dX6_mostOf_30 : decode cX6_mostOf 30 = .ok (.iconst 0, 1) := by decide +kernel
theorem dX6_mostOf_31 : decode cX6_mostOf 31 = .ok (.istore_n 1, 1) := by decide +kernel
theorem dX6_mostOf_32 : decode cX6_mostOf 32 = .ok (.iload_n 1, 1) := by decide +kernel
theorem dX6_mostOf_33 : decode cX6_mostOf 33 = .ok (.aload_n 0, 1) := by decide +kernel
theorem dX6_mostOf_34 : decode cX6_mostOf 34 = .ok (.getfield 108, 3) := by decide +kernel
theorem dX6_mostOf_37 : decode cX6_mostOf 37 = .ok (.if_icmp .ge 158, 3) := by decide +kernel
theorem dX6_mostOf_40 : decode cX6_mostOf 40 = .ok (.aload_n 0, 1) := by decide +kernel
theorem dX6_mostOf_41 : decode cX6_mostOf 41 = .ok (.getfield 74, 3) := by decide +kernel
theorem dX6_mostOf_44 : decode cX6_mostOf 44 = .ok (.iload_n 1, 1) := by decide +kernel
theorem dX6_mostOf_45 : decode cX6_mostOf 45 = .ok (.iaload, 1) := by decide +kernel
theorem dX6_mostOf_46 : decode cX6_mostOf 46 = .ok (.istore_n 2, 1) := by decide +kernel
theorem dX6_mostOf_47 : decode cX6_mostOf 47 = .ok (.iconst 0, 1) := by decide +kernel
theorem dX6_mostOf_48 : decode cX6_mostOf 48 = .ok (.istore_n 3, 1) := by decide +kernel
theorem dX6_mostOf_49 : decode cX6_mostOf 49 = .ok (.iload_n 3, 1) := by decide +kernel
theorem dX6_mostOf_50 : decode cX6_mostOf 50 = .ok (.sipush 500, 3) := by decide +kernel
theorem dX6_mostOf_53 : decode cX6_mostOf 53 = .ok (.if_icmp .gt 109, 3) := by decide +kernel
theorem dX6_mostOf_56 : decode cX6_mostOf 56 = .ok (.aload_n 0, 1) := by decide +kernel
theorem dX6_mostOf_57 : decode cX6_mostOf 57 = .ok (.getfield 83, 3) := by decide +kernel
theorem dX6_mostOf_60 : decode cX6_mostOf 60 = .ok (.iload_n 3, 1) := by decide +kernel
theorem dX6_mostOf_61 : decode cX6_mostOf 61 = .ok (.aload_n 0, 1) := by decide +kernel
theorem dX6_mostOf_62 : decode cX6_mostOf 62 = .ok (.getfield 77, 3) := by decide +kernel
theorem dX6_mostOf_65 : decode cX6_mostOf 65 = .ok (.iload_n 2, 1) := by decide +kernel
theorem dX6_mostOf_66 : decode cX6_mostOf 66 = .ok (.iaload, 1) := by decide +kernel
theorem dX6_mostOf_67 : decode cX6_mostOf 67 = .ok (.iconst 1, 1) := by decide +kernel
theorem dX6_mostOf_68 : decode cX6_mostOf 68 = .ok (.if_icmp .ne 7, 3) := by decide +kernel
theorem dX6_mostOf_71 : decode cX6_mostOf 71 = .ok (.iconst (-1), 1) := by decide +kernel
theorem dX6_mostOf_72 : decode cX6_mostOf 72 = .ok (.goto 9, 3) := by decide +kernel
theorem dX6_mostOf_75 : decode cX6_mostOf 75 = .ok (.aload_n 0, 1) := by decide +kernel
theorem dX6_mostOf_76 : decode cX6_mostOf 76 = .ok (.getfield 80, 3) := by decide +kernel
theorem dX6_mostOf_79 : decode cX6_mostOf 79 = .ok (.iload_n 3, 1) := by decide +kernel
theorem dX6_mostOf_80 : decode cX6_mostOf 80 = .ok (.iaload, 1) := by decide +kernel
theorem dX6_mostOf_81 : decode cX6_mostOf 81 = .ok (.iastore, 1) := by decide +kernel
theorem dX6_mostOf_82 : decode cX6_mostOf 82 = .ok (.iload_n 3, 1) := by decide +kernel
theorem dX6_mostOf_83 : decode cX6_mostOf 83 = .ok (.aload_n 0, 1) := by decide +kernel
theorem dX6_mostOf_84 : decode cX6_mostOf 84 = .ok (.getfield 68, 3) := by decide +kernel
theorem dX6_mostOf_87 : decode cX6_mostOf 87 = .ok (.iload_n 2, 1) := by decide +kernel
theorem dX6_mostOf_88 : decode cX6_mostOf 88 = .ok (.iaload, 1) := by decide +kernel
theorem dX6_mostOf_89 : decode cX6_mostOf 89 = .ok (.isub, 1) := by decide +kernel
theorem dX6_mostOf_90 : decode cX6_mostOf 90 = .ok (.istore 4, 2) := by decide +kernel
theorem dX6_mostOf_92 : decode cX6_mostOf 92 = .ok (.aload_n 0, 1) := by decide +kernel
theorem dX6_mostOf_93 : decode cX6_mostOf 93 = .ok (.getfield 77, 3) := by decide +kernel
theorem dX6_mostOf_96 : decode cX6_mostOf 96 = .ok (.iload_n 2, 1) := by decide +kernel
theorem dX6_mostOf_97 : decode cX6_mostOf 97 = .ok (.iaload, 1) := by decide +kernel
theorem dX6_mostOf_98 : decode cX6_mostOf 98 = .ok (.iconst 2, 1) := by decide +kernel
theorem dX6_mostOf_99 : decode cX6_mostOf 99 = .ok (.if_icmp .eq 57, 3) := by decide +kernel
theorem dX6_mostOf_102 : decode cX6_mostOf 102 = .ok (.iload_n 3, 1) := by decide +kernel
theorem dX6_mostOf_103 : decode cX6_mostOf 103 = .ok (.aload_n 0, 1) := by decide +kernel
theorem dX6_mostOf_104 : decode cX6_mostOf 104 = .ok (.getfield 71, 3) := by decide +kernel
theorem dX6_mostOf_107 : decode cX6_mostOf 107 = .ok (.iload_n 2, 1) := by decide +kernel
theorem dX6_mostOf_108 : decode cX6_mostOf 108 = .ok (.iaload, 1) := by decide +kernel
theorem dX6_mostOf_109 : decode cX6_mostOf 109 = .ok (.if_icmp .gt 47, 3) := by decide +kernel
theorem dX6_mostOf_112 : decode cX6_mostOf 112 = .ok (.iload 4, 2) := by decide +kernel
theorem dX6_mostOf_114 : decode cX6_mostOf 114 = .ok (.ifCond .lt 42, 3) := by decide +kernel
theorem dX6_mostOf_117 : decode cX6_mostOf 117 = .ok (.aload_n 0, 1) := by decide +kernel
theorem dX6_mostOf_118 : decode cX6_mostOf 118 = .ok (.getfield 80, 3) := by decide +kernel
theorem dX6_mostOf_121 : decode cX6_mostOf 121 = .ok (.iload 4, 2) := by decide +kernel
theorem dX6_mostOf_123 : decode cX6_mostOf 123 = .ok (.iaload, 1) := by decide +kernel
theorem dX6_mostOf_124 : decode cX6_mostOf 124 = .ok (.ifCond .lt 32, 3) := by decide +kernel
theorem dX6_mostOf_127 : decode cX6_mostOf 127 = .ok (.aload_n 0, 1) := by decide +kernel
theorem dX6_mostOf_128 : decode cX6_mostOf 128 = .ok (.getfield 83, 3) := by decide +kernel
theorem dX6_mostOf_131 : decode cX6_mostOf 131 = .ok (.iload_n 3, 1) := by decide +kernel
theorem dX6_mostOf_132 : decode cX6_mostOf 132 = .ok (.aload_n 0, 1) := by decide +kernel
theorem dX6_mostOf_133 : decode cX6_mostOf 133 = .ok (.getfield 83, 3) := by decide +kernel
theorem dX6_mostOf_136 : decode cX6_mostOf 136 = .ok (.iload_n 3, 1) := by decide +kernel
theorem dX6_mostOf_137 : decode cX6_mostOf 137 = .ok (.iaload, 1) := by decide +kernel
theorem dX6_mostOf_138 : decode cX6_mostOf 138 = .ok (.aload_n 0, 1) := by decide +kernel
theorem dX6_mostOf_139 : decode cX6_mostOf 139 = .ok (.getfield 80, 3) := by decide +kernel
theorem dX6_mostOf_142 : decode cX6_mostOf 142 = .ok (.iload 4, 2) := by decide +kernel
theorem dX6_mostOf_144 : decode cX6_mostOf 144 = .ok (.iaload, 1) := by decide +kernel
theorem dX6_mostOf_145 : decode cX6_mostOf 145 = .ok (.aload_n 0, 1) := by decide +kernel
theorem dX6_mostOf_146 : decode cX6_mostOf 146 = .ok (.getfield 65, 3) := by decide +kernel
theorem dX6_mostOf_149 : decode cX6_mostOf 149 = .ok (.iload_n 2, 1) := by decide +kernel
theorem dX6_mostOf_150 : decode cX6_mostOf 150 = .ok (.iaload, 1) := by decide +kernel
theorem dX6_mostOf_151 : decode cX6_mostOf 151 = .ok (.iadd, 1) := by decide +kernel
theorem dX6_mostOf_152 : decode cX6_mostOf 152 = .ok (.invokestatic 217, 3) := by decide +kernel
theorem dX6_mostOf_155 : decode cX6_mostOf 155 = .ok (.iastore, 1) := by decide +kernel
theorem dX6_mostOf_156 : decode cX6_mostOf 156 = .ok (.iinc 3 1, 3) := by decide +kernel
theorem dX6_mostOf_159 : decode cX6_mostOf 159 = .ok (.goto (-110), 3) := by decide +kernel
theorem dX6_mostOf_162 : decode cX6_mostOf 162 = .ok (.iconst 0, 1) := by decide +kernel
theorem dX6_mostOf_163 : decode cX6_mostOf 163 = .ok (.istore_n 3, 1) := by decide +kernel
theorem dX6_mostOf_164 : decode cX6_mostOf 164 = .ok (.iload_n 3, 1) := by decide +kernel
theorem dX6_mostOf_165 : decode cX6_mostOf 165 = .ok (.sipush 500, 3) := by decide +kernel
theorem dX6_mostOf_168 : decode cX6_mostOf 168 = .ok (.if_icmp .gt 21, 3) := by decide +kernel
theorem dX6_mostOf_171 : decode cX6_mostOf 171 = .ok (.aload_n 0, 1) := by decide +kernel
theorem dX6_mostOf_172 : decode cX6_mostOf 172 = .ok (.getfield 80, 3) := by decide +kernel
theorem dX6_mostOf_175 : decode cX6_mostOf 175 = .ok (.iload_n 3, 1) := by decide +kernel
theorem dX6_mostOf_176 : decode cX6_mostOf 176 = .ok (.aload_n 0, 1) := by decide +kernel
theorem dX6_mostOf_177 : decode cX6_mostOf 177 = .ok (.getfield 83, 3) := by decide +kernel
theorem dX6_mostOf_180 : decode cX6_mostOf 180 = .ok (.iload_n 3, 1) := by decide +kernel
theorem dX6_mostOf_181 : decode cX6_mostOf 181 = .ok (.iaload, 1) := by decide +kernel
theorem dX6_mostOf_182 : decode cX6_mostOf 182 = .ok (.iastore, 1) := by decide +kernel
theorem dX6_mostOf_183 : decode cX6_mostOf 183 = .ok (.iinc 3 1, 3) := by decide +kernel
theorem dX6_mostOf_186 : decode cX6_mostOf 186 = .ok (.goto (-22), 3) := by decide +kernel
theorem dX6_mostOf_189 : decode cX6_mostOf 189 = .ok (.iinc 1 1, 3) := by decide +kernel
theorem dX6_mostOf_192 : decode cX6_mostOf 192 = .ok (.goto (-160), 3) := by decide +kernel
theorem dX6_mostOf_195 : decode cX6_mostOf 195 = .ok (.iconst (-1), 1) := by decide +kernel
theorem dX6_mostOf_196 : decode cX6_mostOf 196 = .ok (.istore_n 1, 1) := by decide +kernel
theorem dX6_mostOf_197 : decode cX6_mostOf 197 = .ok (.iconst 0, 1) := by decide +kernel
theorem dX6_mostOf_198 : decode cX6_mostOf 198 = .ok (.istore_n 2, 1) := by decide +kernel
theorem dX6_mostOf_199 : decode cX6_mostOf 199 = .ok (.iload_n 2, 1) := by decide +kernel
theorem dX6_mostOf_200 : decode cX6_mostOf 200 = .ok (.sipush 500, 3) := by decide +kernel
theorem dX6_mostOf_203 : decode cX6_mostOf 203 = .ok (.if_icmp .gt 20, 3) := by decide +kernel
theorem dX6_mostOf_206 : decode cX6_mostOf 206 = .ok (.iload_n 1, 1) := by decide +kernel
theorem dX6_mostOf_207 : decode cX6_mostOf 207 = .ok (.aload_n 0, 1) := by decide +kernel
theorem dX6_mostOf_208 : decode cX6_mostOf 208 = .ok (.getfield 80, 3) := by decide +kernel
theorem dX6_mostOf_211 : decode cX6_mostOf 211 = .ok (.iload_n 2, 1) := by decide +kernel
theorem dX6_mostOf_212 : decode cX6_mostOf 212 = .ok (.iaload, 1) := by decide +kernel
theorem dX6_mostOf_213 : decode cX6_mostOf 213 = .ok (.invokestatic 217, 3) := by decide +kernel
theorem dX6_mostOf_216 : decode cX6_mostOf 216 = .ok (.istore_n 1, 1) := by decide +kernel
theorem dX6_mostOf_217 : decode cX6_mostOf 217 = .ok (.iinc 2 1, 3) := by decide +kernel
theorem dX6_mostOf_220 : decode cX6_mostOf 220 = .ok (.goto (-21), 3) := by decide +kernel
theorem dX6_mostOf_223 : decode cX6_mostOf 223 = .ok (.iload_n 1, 1) := by decide +kernel
theorem dX6_mostOf_224 : decode cX6_mostOf 224 = .ok (.ireturn, 1) := by decide +kernel
set_option maxRecDepth 20000 in
theorem ggX6_chooses_X6_orders : GoodIn wsX6_chooses wsX6_orders := goodIn_r _ [7, 1, 8, 9, 22, 23, 24, 25, 26, 27, 28, 29, 30, 31, 32, 33, 34, 35, 36, 37, 38, 39, 40, 41, 42, 43, 44, 45, 46, 47, 48, 49, 50, 51, 52, 53, 54, 55, 56, 57, 58, 59, 60, 61, 62] (by decide +kernel) (by decide +kernel)
set_option maxRecDepth 20000 in
theorem gX6_chooses_X6_orders : GoodIn wsX6_chooses (wsV RX6 241 RX6 yX6_orders wsX6_orders) := goodIn_app (goodIn_of _ (by decide +kernel)) ggX6_chooses_X6_orders
set_option maxRecDepth 20000 in
theorem ggX6_chooses_X6_mostOf : GoodIn wsX6_chooses wsX6_mostOf := goodIn_r _ [13, 14, 1, 9, 15, 2, 16, 8, 17, 18, 19, 20, 21, 22, 23, 24, 25, 26, 27, 28, 29, 30, 31, 32, 33, 34, 35, 36, 37, 38, 39, 40, 41, 42, 43, 44, 45, 46, 47, 48, 49, 50, 51, 52, 53, 54, 55, 56, 57, 58, 59, 60, 61, 62] (by decide +kernel) (by decide +kernel)
set_option maxRecDepth 20000 in
theorem gX6_chooses_X6_mostOf : GoodIn wsX6_chooses (wsV RX6 244 RX6 yX6_mostOf wsX6_mostOf) := goodIn_app (goodIn_of _ (by decide +kernel)) ggX6_chooses_X6_mostOf
theorem dX6_chooses_0 : decode cX6_chooses 0 = .ok (.aload_n 0, 1) := by decide +kernel
theorem dX6_chooses_1 : decode cX6_chooses 1 = .ok (.invokevirtual 241, 3) := by decide +kernel
theorem dX6_chooses_4 : decode cX6_chooses 4 = .ok (.iconst 0, 1) := by decide +kernel
theorem dX6_chooses_5 : decode cX6_chooses 5 = .ok (.istore_n 1, 1) := by decide +kernel
theorem dX6_chooses_6 : decode cX6_chooses 6 = .ok (.iload_n 1, 1) := by decide +kernel
theorem dX6_chooses_7 : decode cX6_chooses 7 = .ok (.aload_n 0, 1) := by decide +kernel
theorem dX6_chooses_8 : decode cX6_chooses 8 = .ok (.getfield 108, 3) := by decide +kernel
theorem dX6_chooses_11 : decode cX6_chooses 11 = .ok (.if_icmp .ge 16, 3) := by decide +kernel
theorem dX6_chooses_14 : decode cX6_chooses 14 = .ok (.aload_n 0, 1) := by decide +kernel
theorem dX6_chooses_15 : decode cX6_chooses 15 = .ok (.getfield 77, 3) := by decide +kernel
theorem dX6_chooses_18 : decode cX6_chooses 18 = .ok (.iload_n 1, 1) := by decide +kernel
theorem dX6_chooses_19 : decode cX6_chooses 19 = .ok (.iconst 0, 1) := by decide +kernel
theorem dX6_chooses_20 : decode cX6_chooses 20 = .ok (.iastore, 1) := by decide +kernel
theorem dX6_chooses_21 : decode cX6_chooses 21 = .ok (.iinc 1 1, 3) := by decide +kernel
theorem dX6_chooses_24 : decode cX6_chooses 24 = .ok (.goto (-18), 3) := by decide +kernel
theorem dX6_chooses_27 : decode cX6_chooses 27 = .ok (.aload_n 0, 1) := by decide +kernel
theorem dX6_chooses_28 : decode cX6_chooses 28 = .ok (.invokevirtual 244, 3) := by decide +kernel
theorem dX6_chooses_31 : decode cX6_chooses 31 = .ok (.istore_n 1, 1) := by decide +kernel
theorem dX6_chooses_32 : decode cX6_chooses 32 = .ok (.iconst 0, 1) := by decide +kernel
theorem dX6_chooses_33 : decode cX6_chooses 33 = .ok (.istore_n 2, 1) := by decide +kernel
theorem dX6_chooses_34 : decode cX6_chooses 34 = .ok (.iload_n 2, 1) := by decide +kernel
theorem dX6_chooses_35 : decode cX6_chooses 35 = .ok (.aload_n 0, 1) := by decide +kernel
theorem dX6_chooses_36 : decode cX6_chooses 36 = .ok (.getfield 108, 3) := by decide +kernel
theorem dX6_chooses_39 : decode cX6_chooses 39 = .ok (.if_icmp .ge 31, 3) := by decide +kernel
theorem dX6_chooses_42 : decode cX6_chooses 42 = .ok (.aload_n 0, 1) := by decide +kernel
theorem dX6_chooses_43 : decode cX6_chooses 43 = .ok (.getfield 77, 3) := by decide +kernel
theorem dX6_chooses_46 : decode cX6_chooses 46 = .ok (.iload_n 2, 1) := by decide +kernel
theorem dX6_chooses_47 : decode cX6_chooses 47 = .ok (.iconst 1, 1) := by decide +kernel
theorem dX6_chooses_48 : decode cX6_chooses 48 = .ok (.iastore, 1) := by decide +kernel
theorem dX6_chooses_49 : decode cX6_chooses 49 = .ok (.aload_n 0, 1) := by decide +kernel
theorem dX6_chooses_50 : decode cX6_chooses 50 = .ok (.invokevirtual 244, 3) := by decide +kernel
theorem dX6_chooses_53 : decode cX6_chooses 53 = .ok (.iload_n 1, 1) := by decide +kernel
theorem dX6_chooses_54 : decode cX6_chooses 54 = .ok (.if_icmp .eq 10, 3) := by decide +kernel
theorem dX6_chooses_57 : decode cX6_chooses 57 = .ok (.aload_n 0, 1) := by decide +kernel
theorem dX6_chooses_58 : decode cX6_chooses 58 = .ok (.getfield 77, 3) := by decide +kernel
theorem dX6_chooses_61 : decode cX6_chooses 61 = .ok (.iload_n 2, 1) := by decide +kernel
theorem dX6_chooses_62 : decode cX6_chooses 62 = .ok (.iconst 2, 1) := by decide +kernel
theorem dX6_chooses_63 : decode cX6_chooses 63 = .ok (.iastore, 1) := by decide +kernel
theorem dX6_chooses_64 : decode cX6_chooses 64 = .ok (.iinc 2 1, 3) := by decide +kernel
theorem dX6_chooses_67 : decode cX6_chooses 67 = .ok (.goto (-33), 3) := by decide +kernel
theorem dX6_chooses_70 : decode cX6_chooses 70 = .ok (.iload_n 1, 1) := by decide +kernel
theorem dX6_chooses_71 : decode cX6_chooses 71 = .ok (.ireturn, 1) := by decide +kernel
set_option maxRecDepth 20000 in
theorem ggX6_best_X6_chooses : GoodIn wsX6_best wsX6_chooses := goodIn_r _ [7, 8, 9, 10, 11, 12, 6, 13, 14, 15, 16, 17, 18, 19, 20, 21, 22, 23, 24, 25, 26, 27, 28, 29, 30, 31, 32, 33, 34, 35, 36, 37, 38, 39, 40, 41, 42, 43, 44, 45, 46, 47, 48, 49, 50, 51, 52, 53, 54, 55, 56, 57, 58, 59, 60, 61, 62, 63, 64, 65, 66, 67, 68] (by decide +kernel) (by decide +kernel)
set_option maxRecDepth 20000 in
theorem gX6_best_X6_chooses : GoodIn wsX6_best (wsV RX6 248 RX6 yX6_chooses wsX6_chooses) := goodIn_app (goodIn_of _ (by decide +kernel)) ggX6_best_X6_chooses
theorem dX6_best_0 : decode cX6_best 0 = .ok (.aload_n 0, 1) := by decide +kernel
theorem dX6_best_1 : decode cX6_best 1 = .ok (.iconst 0, 1) := by decide +kernel
theorem dX6_best_2 : decode cX6_best 2 = .ok (.putfield 101, 3) := by decide +kernel
theorem dX6_best_5 : decode cX6_best 5 = .ok (.aload_n 0, 1) := by decide +kernel
theorem dX6_best_6 : decode cX6_best 6 = .ok (.iconst 0, 1) := by decide +kernel
theorem dX6_best_7 : decode cX6_best 7 = .ok (.putfield 105, 3) := by decide +kernel
theorem dX6_best_10 : decode cX6_best 10 = .ok (.aload_n 0, 1) := by decide +kernel
theorem dX6_best_11 : decode cX6_best 11 = .ok (.invokevirtual 248, 3) := by decide +kernel
theorem dX6_best_14 : decode cX6_best 14 = .ok (.ireturn, 1) := by decide +kernel
set_option maxRecDepth 20000 in
theorem ggX6_hour_X6_isPlate : GoodIn wsX6_hour wsX6_isPlate := goodIn_r _ [10, 11, 36, 37, 38, 39, 40, 41, 42, 43, 44, 45, 46, 47, 48, 49, 50, 51, 52, 53, 54, 55, 56, 57, 58, 59, 60, 61, 62, 63, 64, 65, 66, 67, 68, 69, 70, 71, 72, 73, 74, 75, 76] (by decide +kernel) (by decide +kernel)
set_option maxRecDepth 20000 in
theorem gX6_hour_X6_isPlate : GoodIn wsX6_hour (wsV RX6 122 RX6 yX6_isPlate wsX6_isPlate) := goodIn_app (goodIn_of _ (by decide +kernel)) ggX6_hour_X6_isPlate
set_option maxRecDepth 20000 in
theorem ggX6_hour_X6_refuse : GoodIn wsX6_hour wsX6_refuse := goodIn_r _ [15, 2, 36, 37, 38, 39, 40, 41, 42, 43, 44, 45, 46, 47, 48, 49, 50, 51, 52, 53, 54, 55, 56, 57, 58, 59, 60, 61, 62, 63, 64, 65, 66, 67, 68, 69, 70, 71, 72, 73, 74, 75, 76] (by decide +kernel) (by decide +kernel)
set_option maxRecDepth 20000 in
theorem gX6_hour_X6_refuse : GoodIn wsX6_hour (wsV RX6 115 RX6 yX6_refuse wsX6_refuse) := goodIn_app (goodIn_of _ (by decide +kernel)) ggX6_hour_X6_refuse
set_option maxRecDepth 20000 in
theorem ggX6_hour_X6_chooses : GoodIn wsX6_hour wsX6_chooses := goodIn_r _ [19, 11, 3, 20, 21, 22, 9, 23, 24, 4, 25, 26, 27, 28, 29, 30, 5, 31, 32, 33, 34, 35, 36, 37, 38, 39, 40, 41, 42, 43, 44, 45, 46, 47, 48, 49, 50, 51, 52, 53, 54, 55, 56, 57, 58, 59, 60, 61, 62, 63, 64, 65, 66, 67, 68, 69, 70, 71, 72, 73, 74, 75, 76] (by decide +kernel) (by decide +kernel)
set_option maxRecDepth 20000 in
theorem gX6_hour_X6_chooses : GoodIn wsX6_hour (wsV RX6 248 RX6 yX6_chooses wsX6_chooses) := goodIn_app (goodIn_of _ (by decide +kernel)) ggX6_hour_X6_chooses
theorem dX6_hour_0 : decode cX6_hour 0 = .ok (.aload_n 0, 1) := by decide +kernel
theorem dX6_hour_1 : decode cX6_hour 1 = .ok (.iconst 0, 1) := by decide +kernel
theorem dX6_hour_2 : decode cX6_hour 2 = .ok (.putfield 101, 3) := by decide +kernel
theorem dX6_hour_5 : decode cX6_hour 5 = .ok (.aload_n 0, 1) := by decide +kernel
theorem dX6_hour_6 : decode cX6_hour 6 = .ok (.iconst 0, 1) := by decide +kernel
theorem dX6_hour_7 : decode cX6_hour 7 = .ok (.putfield 105, 3) := by decide +kernel
theorem dX6_hour_10 : decode cX6_hour 10 = .ok (.aload_n 0, 1) := by decide +kernel
theorem dX6_hour_11 : decode cX6_hour 11 = .ok (.iload_n 1, 1) := by decide +kernel
theorem dX6_hour_12 : decode cX6_hour 12 = .ok (.invokevirtual 122, 3) := by decide +kernel
theorem dX6_hour_15 : decode cX6_hour 15 = .ok (.ifCond .ne 9, 3) := by decide +kernel
theorem dX6_hour_18 : decode cX6_hour 18 = .ok (.aload_n 0, 1) := by decide +kernel
theorem dX6_hour_19 : decode cX6_hour 19 = .ok (.iconst 1, 1) := by decide +kernel
theorem dX6_hour_20 : decode cX6_hour 20 = .ok (.invokevirtual 115, 3) := by decide +kernel
theorem dX6_hour_23 : decode cX6_hour 23 = .ok (.ireturn, 1) := by decide +kernel
theorem dX6_hour_24 : decode cX6_hour 24 = .ok (.aload_n 0, 1) := by decide +kernel
theorem dX6_hour_25 : decode cX6_hour 25 = .ok (.invokevirtual 248, 3) := by decide +kernel
theorem dX6_hour_28 : decode cX6_hour 28 = .ok (.pop, 1) := by decide +kernel
theorem dX6_hour_29 : decode cX6_hour 29 = .ok (.aload_n 0, 1) := by decide +kernel
theorem dX6_hour_30 : decode cX6_hour 30 = .ok (.getfield 77, 3) := by decide +kernel
theorem dX6_hour_33 : decode cX6_hour 33 = .ok (.iload_n 1, 1) := by decide +kernel
theorem dX6_hour_34 : decode cX6_hour 34 = .ok (.iaload, 1) := by decide +kernel
theorem dX6_hour_35 : decode cX6_hour 35 = .ok (.iconst 1, 1) := by decide +kernel
theorem dX6_hour_36 : decode cX6_hour 36 = .ok (.if_icmp .eq 10, 3) := by decide +kernel
theorem dX6_hour_39 : decode cX6_hour 39 = .ok (.aload_n 0, 1) := by decide +kernel
theorem dX6_hour_40 : decode cX6_hour 40 = .ok (.bipush 8, 2) := by decide +kernel
theorem dX6_hour_42 : decode cX6_hour 42 = .ok (.invokevirtual 115, 3) := by decide +kernel
theorem dX6_hour_45 : decode cX6_hour 45 = .ok (.ireturn, 1) := by decide +kernel
theorem dX6_hour_46 : decode cX6_hour 46 = .ok (.iconst 0, 1) := by decide +kernel
theorem dX6_hour_47 : decode cX6_hour 47 = .ok (.istore_n 2, 1) := by decide +kernel
theorem dX6_hour_48 : decode cX6_hour 48 = .ok (.iconst 0, 1) := by decide +kernel
theorem dX6_hour_49 : decode cX6_hour 49 = .ok (.istore_n 3, 1) := by decide +kernel
theorem dX6_hour_50 : decode cX6_hour 50 = .ok (.aload_n 0, 1) := by decide +kernel
theorem dX6_hour_51 : decode cX6_hour 51 = .ok (.getfield 74, 3) := by decide +kernel
theorem dX6_hour_54 : decode cX6_hour 54 = .ok (.iload_n 3, 1) := by decide +kernel
theorem dX6_hour_55 : decode cX6_hour 55 = .ok (.iaload, 1) := by decide +kernel
theorem dX6_hour_56 : decode cX6_hour 56 = .ok (.iload_n 1, 1) := by decide +kernel
theorem dX6_hour_57 : decode cX6_hour 57 = .ok (.if_icmp .eq 42, 3) := by decide +kernel
theorem dX6_hour_60 : decode cX6_hour 60 = .ok (.iload_n 2, 1) := by decide +kernel
theorem dX6_hour_61 : decode cX6_hour 61 = .ok (.aload_n 0, 1) := by decide +kernel
theorem dX6_hour_62 : decode cX6_hour 62 = .ok (.getfield 77, 3) := by decide +kernel
theorem dX6_hour_65 : decode cX6_hour 65 = .ok (.aload_n 0, 1) := by decide +kernel
theorem dX6_hour_66 : decode cX6_hour 66 = .ok (.getfield 74, 3) := by decide +kernel
theorem dX6_hour_69 : decode cX6_hour 69 = .ok (.iload_n 3, 1) := by decide +kernel
theorem dX6_hour_70 : decode cX6_hour 70 = .ok (.iaload, 1) := by decide +kernel
theorem dX6_hour_71 : decode cX6_hour 71 = .ok (.iaload, 1) := by decide +kernel
theorem dX6_hour_72 : decode cX6_hour 72 = .ok (.iconst 1, 1) := by decide +kernel
theorem dX6_hour_73 : decode cX6_hour 73 = .ok (.if_icmp .ne 17, 3) := by decide +kernel
theorem dX6_hour_76 : decode cX6_hour 76 = .ok (.aload_n 0, 1) := by decide +kernel
theorem dX6_hour_77 : decode cX6_hour 77 = .ok (.getfield 68, 3) := by decide +kernel
theorem dX6_hour_80 : decode cX6_hour 80 = .ok (.aload_n 0, 1) := by decide +kernel
theorem dX6_hour_81 : decode cX6_hour 81 = .ok (.getfield 74, 3) := by decide +kernel
theorem dX6_hour_84 : decode cX6_hour 84 = .ok (.iload_n 3, 1) := by decide +kernel
theorem dX6_hour_85 : decode cX6_hour 85 = .ok (.iaload, 1) := by decide +kernel
theorem dX6_hour_86 : decode cX6_hour 86 = .ok (.iaload, 1) := by decide +kernel
theorem dX6_hour_87 : decode cX6_hour 87 = .ok (.goto 4, 3) := by decide +kernel
theorem dX6_hour_90 : decode cX6_hour 90 = .ok (.iconst 0, 1) := by decide +kernel
theorem dX6_hour_91 : decode cX6_hour 91 = .ok (.iadd, 1) := by decide +kernel
theorem dX6_hour_92 : decode cX6_hour 92 = .ok (.istore_n 2, 1) := by decide +kernel
theorem dX6_hour_93 : decode cX6_hour 93 = .ok (.iinc 3 1, 3) := by decide +kernel
theorem dX6_hour_96 : decode cX6_hour 96 = .ok (.goto (-46), 3) := by decide +kernel
theorem dX6_hour_99 : decode cX6_hour 99 = .ok (.iload_n 2, 1) := by decide +kernel
theorem dX6_hour_100 : decode cX6_hour 100 = .ok (.ireturn, 1) := by decide +kernel
set_option maxRecDepth 20000 in
theorem ggX6_law_X6_no : GoodIn wsX6_law wsX6_no := goodIn_r _ [12, 2, 13, 14, 15, 16, 17, 18, 19, 20, 21, 22, 23, 24, 25, 26, 27, 28, 29, 30, 31, 32, 33, 34, 35, 36, 37, 38, 39, 40, 41, 42, 43, 44, 45, 46, 47, 48, 49, 50, 51, 52, 53] (by decide +kernel) (by decide +kernel)
set_option maxRecDepth 20000 in
theorem gX6_law_X6_no : GoodIn wsX6_law (wsV RX6 143 RX6 yX6_no wsX6_no) := goodIn_app (goodIn_of _ (by decide +kernel)) ggX6_law_X6_no
theorem dX6_law_0 : decode cX6_law 0 = .ok (.aload_n 0, 1) := by decide +kernel
theorem dX6_law_1 : decode cX6_law 1 = .ok (.iconst 0, 1) := by decide +kernel
theorem dX6_law_2 : decode cX6_law 2 = .ok (.putfield 101, 3) := by decide +kernel
theorem dX6_law_5 : decode cX6_law 5 = .ok (.aload_n 0, 1) := by decide +kernel
theorem dX6_law_6 : decode cX6_law 6 = .ok (.iconst 0, 1) := by decide +kernel
theorem dX6_law_7 : decode cX6_law 7 = .ok (.putfield 105, 3) := by decide +kernel
theorem dX6_law_10 : decode cX6_law 10 = .ok (.iload_n 1, 1) := by decide +kernel
theorem dX6_law_11 : decode cX6_law 11 = .ok (.ifCond .lt 19, 3) := by decide +kernel
theorem dX6_law_14 : decode cX6_law 14 = .ok (.iload_n 1, 1) := by decide +kernel
theorem dX6_law_15 : decode cX6_law 15 = .ok (.ldc 114, 2) := by decide +kernel
theorem dX6_law_17 : decode cX6_law 17 = .ok (.if_icmp .gt 13, 3) := by decide +kernel
theorem dX6_law_20 : decode cX6_law 20 = .ok (.iload_n 2, 1) := by decide +kernel
theorem dX6_law_21 : decode cX6_law 21 = .ok (.ifCond .lt 9, 3) := by decide +kernel
theorem dX6_law_24 : decode cX6_law 24 = .ok (.iload_n 2, 1) := by decide +kernel
theorem dX6_law_25 : decode cX6_law 25 = .ok (.ldc 251, 2) := by decide +kernel
theorem dX6_law_27 : decode cX6_law 27 = .ok (.if_icmp .le 9, 3) := by decide +kernel
theorem dX6_law_30 : decode cX6_law 30 = .ok (.aload_n 0, 1) := by decide +kernel
theorem dX6_law_31 : decode cX6_law 31 = .ok (.iconst 2, 1) := by decide +kernel
theorem dX6_law_32 : decode cX6_law 32 = .ok (.invokevirtual 143, 3) := by decide +kernel
theorem dX6_law_35 : decode cX6_law 35 = .ok (.ireturn, 1) := by decide +kernel
theorem dX6_law_36 : decode cX6_law 36 = .ok (.aload_n 0, 1) := by decide +kernel
theorem dX6_law_37 : decode cX6_law 37 = .ok (.getfield 252, 3) := by decide +kernel
theorem dX6_law_40 : decode cX6_law 40 = .ok (.bipush 10, 2) := by decide +kernel
theorem dX6_law_42 : decode cX6_law 42 = .ok (.if_icmp .ne 9, 3) := by decide +kernel
theorem dX6_law_45 : decode cX6_law 45 = .ok (.aload_n 0, 1) := by decide +kernel
theorem dX6_law_46 : decode cX6_law 46 = .ok (.iconst 3, 1) := by decide +kernel
theorem dX6_law_47 : decode cX6_law 47 = .ok (.invokevirtual 143, 3) := by decide +kernel
theorem dX6_law_50 : decode cX6_law 50 = .ok (.ireturn, 1) := by decide +kernel
theorem dX6_law_51 : decode cX6_law 51 = .ok (.aload_n 0, 1) := by decide +kernel
theorem dX6_law_52 : decode cX6_law 52 = .ok (.getfield 86, 3) := by decide +kernel
theorem dX6_law_55 : decode cX6_law 55 = .ok (.aload_n 0, 1) := by decide +kernel
theorem dX6_law_56 : decode cX6_law 56 = .ok (.getfield 252, 3) := by decide +kernel
theorem dX6_law_59 : decode cX6_law 59 = .ok (.iload_n 1, 1) := by decide +kernel
theorem dX6_law_60 : decode cX6_law 60 = .ok (.iastore, 1) := by decide +kernel
theorem dX6_law_61 : decode cX6_law 61 = .ok (.aload_n 0, 1) := by decide +kernel
theorem dX6_law_62 : decode cX6_law 62 = .ok (.getfield 89, 3) := by decide +kernel
theorem dX6_law_65 : decode cX6_law 65 = .ok (.aload_n 0, 1) := by decide +kernel
theorem dX6_law_66 : decode cX6_law 66 = .ok (.getfield 252, 3) := by decide +kernel
theorem dX6_law_69 : decode cX6_law 69 = .ok (.iload_n 2, 1) := by decide +kernel
theorem dX6_law_70 : decode cX6_law 70 = .ok (.iastore, 1) := by decide +kernel
theorem dX6_law_71 : decode cX6_law 71 = .ok (.aload_n 0, 1) := by decide +kernel
theorem dX6_law_72 : decode cX6_law 72 = .ok (.dup, 1) := by decide +kernel
theorem dX6_law_73 : decode cX6_law 73 = .ok (.getfield 252, 3) := by decide +kernel
theorem dX6_law_76 : decode cX6_law 76 = .ok (.iconst 1, 1) := by decide +kernel
theorem dX6_law_77 : decode cX6_law 77 = .ok (.iadd, 1) := by decide +kernel
theorem dX6_law_78 : decode cX6_law 78 = .ok (.putfield 252, 3) := by decide +kernel
theorem dX6_law_81 : decode cX6_law 81 = .ok (.iconst 1, 1) := by decide +kernel
theorem dX6_law_82 : decode cX6_law 82 = .ok (.ireturn, 1) := by decide +kernel
set_option maxRecDepth 20000 in
theorem ggX6_death_X6_isPlate : GoodIn wsX6_death wsX6_isPlate := goodIn_r _ [12, 13, 21, 22, 23, 24, 25, 26, 27, 28, 29, 30, 31, 32, 33, 34, 35, 36, 37, 38, 39, 40, 41, 42, 43, 44, 45, 46, 47, 48, 49, 50, 51, 52, 53, 54, 55, 56, 57, 58, 59, 60, 61] (by decide +kernel) (by decide +kernel)
set_option maxRecDepth 20000 in
theorem gX6_death_X6_isPlate : GoodIn wsX6_death (wsV RX6 122 RX6 yX6_isPlate wsX6_isPlate) := goodIn_app (goodIn_of _ (by decide +kernel)) ggX6_death_X6_isPlate
set_option maxRecDepth 20000 in
theorem ggX6_death_X6_no : GoodIn wsX6_death wsX6_no := goodIn_r _ [17, 2, 21, 22, 23, 24, 25, 26, 27, 28, 29, 30, 31, 32, 33, 34, 35, 36, 37, 38, 39, 40, 41, 42, 43, 44, 45, 46, 47, 48, 49, 50, 51, 52, 53, 54, 55, 56, 57, 58, 59, 60, 61] (by decide +kernel) (by decide +kernel)
set_option maxRecDepth 20000 in
theorem gX6_death_X6_no : GoodIn wsX6_death (wsV RX6 143 RX6 yX6_no wsX6_no) := goodIn_app (goodIn_of _ (by decide +kernel)) ggX6_death_X6_no
set_option maxRecDepth 20000 in
theorem ggX6_death_X6_isDay : GoodIn wsX6_death wsX6_isDay := goodIn_r _ [20] (by decide +kernel) (by decide +kernel)
set_option maxRecDepth 20000 in
theorem gX6_death_X6_isDay : GoodIn wsX6_death (va_wsS RX6 129 yX6_isDay wsX6_isDay) := goodIn_app (goodIn_of _ (by decide +kernel)) ggX6_death_X6_isDay
theorem dX6_death_0 : decode cX6_death 0 = .ok (.aload_n 0, 1) := by decide +kernel
theorem dX6_death_1 : decode cX6_death 1 = .ok (.iconst 0, 1) := by decide +kernel
theorem dX6_death_2 : decode cX6_death 2 = .ok (.putfield 101, 3) := by decide +kernel
theorem dX6_death_5 : decode cX6_death 5 = .ok (.aload_n 0, 1) := by decide +kernel
theorem dX6_death_6 : decode cX6_death 6 = .ok (.iconst 0, 1) := by decide +kernel
theorem dX6_death_7 : decode cX6_death 7 = .ok (.putfield 105, 3) := by decide +kernel
theorem dX6_death_10 : decode cX6_death 10 = .ok (.aload_n 0, 1) := by decide +kernel
theorem dX6_death_11 : decode cX6_death 11 = .ok (.iload_n 1, 1) := by decide +kernel
theorem dX6_death_12 : decode cX6_death 12 = .ok (.invokevirtual 122, 3) := by decide +kernel
theorem dX6_death_15 : decode cX6_death 15 = .ok (.ifCond .ne 9, 3) := by decide +kernel
theorem dX6_death_18 : decode cX6_death 18 = .ok (.aload_n 0, 1) := by decide +kernel
theorem dX6_death_19 : decode cX6_death 19 = .ok (.iconst 1, 1) := by decide +kernel
theorem dX6_death_20 : decode cX6_death 20 = .ok (.invokevirtual 143, 3) := by decide +kernel
theorem dX6_death_23 : decode cX6_death 23 = .ok (.ireturn, 1) := by decide +kernel
theorem dX6_death_24 : decode cX6_death 24 = .ok (.iload_n 2, 1) := by decide +kernel
theorem dX6_death_25 : decode cX6_death 25 = .ok (.ifCond .lt 16, 3) := by decide +kernel
theorem dX6_death_28 : decode cX6_death 28 = .ok (.iload_n 2, 1) := by decide +kernel
theorem dX6_death_29 : decode cX6_death 29 = .ok (.ldc 114, 2) := by decide +kernel
theorem dX6_death_31 : decode cX6_death 31 = .ok (.if_icmp .gt 10, 3) := by decide +kernel
theorem dX6_death_34 : decode cX6_death 34 = .ok (.iload_n 3, 1) := by decide +kernel
theorem dX6_death_35 : decode cX6_death 35 = .ok (.invokestatic 129, 3) := by decide +kernel
theorem dX6_death_38 : decode cX6_death 38 = .ok (.ifCond .ne 9, 3) := by decide +kernel
theorem dX6_death_41 : decode cX6_death 41 = .ok (.aload_n 0, 1) := by decide +kernel
theorem dX6_death_42 : decode cX6_death 42 = .ok (.iconst 2, 1) := by decide +kernel
theorem dX6_death_43 : decode cX6_death 43 = .ok (.invokevirtual 143, 3) := by decide +kernel
theorem dX6_death_46 : decode cX6_death 46 = .ok (.ireturn, 1) := by decide +kernel
theorem dX6_death_47 : decode cX6_death 47 = .ok (.aload_n 0, 1) := by decide +kernel
theorem dX6_death_48 : decode cX6_death 48 = .ok (.getfield 255, 3) := by decide +kernel
theorem dX6_death_51 : decode cX6_death 51 = .ok (.bipush 60, 2) := by decide +kernel
theorem dX6_death_53 : decode cX6_death 53 = .ok (.if_icmp .ne 9, 3) := by decide +kernel
theorem dX6_death_56 : decode cX6_death 56 = .ok (.aload_n 0, 1) := by decide +kernel
theorem dX6_death_57 : decode cX6_death 57 = .ok (.iconst 3, 1) := by decide +kernel
theorem dX6_death_58 : decode cX6_death 58 = .ok (.invokevirtual 143, 3) := by decide +kernel
theorem dX6_death_61 : decode cX6_death 61 = .ok (.ireturn, 1) := by decide +kernel
theorem dX6_death_62 : decode cX6_death 62 = .ok (.aload_n 0, 1) := by decide +kernel
theorem dX6_death_63 : decode cX6_death 63 = .ok (.getfield 92, 3) := by decide +kernel
theorem dX6_death_66 : decode cX6_death 66 = .ok (.aload_n 0, 1) := by decide +kernel
theorem dX6_death_67 : decode cX6_death 67 = .ok (.getfield 255, 3) := by decide +kernel
theorem dX6_death_70 : decode cX6_death 70 = .ok (.iload_n 1, 1) := by decide +kernel
theorem dX6_death_71 : decode cX6_death 71 = .ok (.iastore, 1) := by decide +kernel
theorem dX6_death_72 : decode cX6_death 72 = .ok (.aload_n 0, 1) := by decide +kernel
theorem dX6_death_73 : decode cX6_death 73 = .ok (.getfield 95, 3) := by decide +kernel
theorem dX6_death_76 : decode cX6_death 76 = .ok (.aload_n 0, 1) := by decide +kernel
theorem dX6_death_77 : decode cX6_death 77 = .ok (.getfield 255, 3) := by decide +kernel
theorem dX6_death_80 : decode cX6_death 80 = .ok (.iload_n 2, 1) := by decide +kernel
theorem dX6_death_81 : decode cX6_death 81 = .ok (.iastore, 1) := by decide +kernel
theorem dX6_death_82 : decode cX6_death 82 = .ok (.aload_n 0, 1) := by decide +kernel
theorem dX6_death_83 : decode cX6_death 83 = .ok (.getfield 98, 3) := by decide +kernel
theorem dX6_death_86 : decode cX6_death 86 = .ok (.aload_n 0, 1) := by decide +kernel
theorem dX6_death_87 : decode cX6_death 87 = .ok (.getfield 255, 3) := by decide +kernel
theorem dX6_death_90 : decode cX6_death 90 = .ok (.iload_n 3, 1) := by decide +kernel
theorem dX6_death_91 : decode cX6_death 91 = .ok (.iastore, 1) := by decide +kernel
theorem dX6_death_92 : decode cX6_death 92 = .ok (.aload_n 0, 1) := by decide +kernel
theorem dX6_death_93 : decode cX6_death 93 = .ok (.dup, 1) := by decide +kernel
theorem dX6_death_94 : decode cX6_death 94 = .ok (.getfield 255, 3) := by decide +kernel
theorem dX6_death_97 : decode cX6_death 97 = .ok (.iconst 1, 1) := by decide +kernel
theorem dX6_death_98 : decode cX6_death 98 = .ok (.iadd, 1) := by decide +kernel
theorem dX6_death_99 : decode cX6_death 99 = .ok (.putfield 255, 3) := by decide +kernel
theorem dX6_death_102 : decode cX6_death 102 = .ok (.iconst 1, 1) := by decide +kernel
theorem dX6_death_103 : decode cX6_death 103 = .ok (.ireturn, 1) := by decide +kernel
set_option maxRecDepth 20000 in
theorem ggX6_free_X6_isPlate : GoodIn wsX6_free wsX6_isPlate := goodIn_r _ [15, 16, 24, 25, 26, 27, 28, 29, 30, 31, 32, 33, 34, 35, 36, 37, 38, 39, 40, 41, 42, 43, 44, 45, 46, 47, 48, 49, 50, 51, 52, 53, 54, 55, 56, 57, 58, 59, 60, 61, 62, 63, 64] (by decide +kernel) (by decide +kernel)
set_option maxRecDepth 20000 in
theorem gX6_free_X6_isPlate : GoodIn wsX6_free (wsV RX6 122 RX6 yX6_isPlate wsX6_isPlate) := goodIn_app (goodIn_of _ (by decide +kernel)) ggX6_free_X6_isPlate
set_option maxRecDepth 20000 in
theorem ggX6_free_X6_refuse : GoodIn wsX6_free wsX6_refuse := goodIn_r _ [20, 2, 24, 25, 26, 27, 28, 29, 30, 31, 32, 33, 34, 35, 36, 37, 38, 39, 40, 41, 42, 43, 44, 45, 46, 47, 48, 49, 50, 51, 52, 53, 54, 55, 56, 57, 58, 59, 60, 61, 62, 63, 64] (by decide +kernel) (by decide +kernel)
set_option maxRecDepth 20000 in
theorem gX6_free_X6_refuse : GoodIn wsX6_free (wsV RX6 115 RX6 yX6_refuse wsX6_refuse) := goodIn_app (goodIn_of _ (by decide +kernel)) ggX6_free_X6_refuse
set_option maxRecDepth 20000 in
theorem ggX6_free_X6_isDay : GoodIn wsX6_free wsX6_isDay := goodIn_r _ [23] (by decide +kernel) (by decide +kernel)
set_option maxRecDepth 20000 in
theorem gX6_free_X6_isDay : GoodIn wsX6_free (va_wsS RX6 129 yX6_isDay wsX6_isDay) := goodIn_app (goodIn_of _ (by decide +kernel)) ggX6_free_X6_isDay
theorem dX6_free_0 : decode cX6_free 0 = .ok (.aload_n 0, 1) := by decide +kernel
theorem dX6_free_1 : decode cX6_free 1 = .ok (.iconst 0, 1) := by decide +kernel
theorem dX6_free_2 : decode cX6_free 2 = .ok (.putfield 101, 3) := by decide +kernel
theorem dX6_free_5 : decode cX6_free 5 = .ok (.aload_n 0, 1) := by decide +kernel
theorem dX6_free_6 : decode cX6_free 6 = .ok (.iconst 0, 1) := by decide +kernel
theorem dX6_free_7 : decode cX6_free 7 = .ok (.putfield 105, 3) := by decide +kernel
theorem dX6_free_10 : decode cX6_free 10 = .ok (.aload_n 0, 1) := by decide +kernel
theorem dX6_free_11 : decode cX6_free 11 = .ok (.iload_n 1, 1) := by decide +kernel
theorem dX6_free_12 : decode cX6_free 12 = .ok (.invokevirtual 122, 3) := by decide +kernel
theorem dX6_free_15 : decode cX6_free 15 = .ok (.ifCond .ne 9, 3) := by decide +kernel
theorem dX6_free_18 : decode cX6_free 18 = .ok (.aload_n 0, 1) := by decide +kernel
theorem dX6_free_19 : decode cX6_free 19 = .ok (.iconst 1, 1) := by decide +kernel
theorem dX6_free_20 : decode cX6_free 20 = .ok (.invokevirtual 115, 3) := by decide +kernel
theorem dX6_free_23 : decode cX6_free 23 = .ok (.ireturn, 1) := by decide +kernel
theorem dX6_free_24 : decode cX6_free 24 = .ok (.iload_n 2, 1) := by decide +kernel
theorem dX6_free_25 : decode cX6_free 25 = .ok (.ifCond .lt 17, 3) := by decide +kernel
theorem dX6_free_28 : decode cX6_free 28 = .ok (.iload_n 2, 1) := by decide +kernel
theorem dX6_free_29 : decode cX6_free 29 = .ok (.ldc_w 258, 3) := by decide +kernel
theorem dX6_free_32 : decode cX6_free 32 = .ok (.if_icmp .gt 10, 3) := by decide +kernel
theorem dX6_free_35 : decode cX6_free 35 = .ok (.iload_n 3, 1) := by decide +kernel
theorem dX6_free_36 : decode cX6_free 36 = .ok (.invokestatic 129, 3) := by decide +kernel
theorem dX6_free_39 : decode cX6_free 39 = .ok (.ifCond .ne 9, 3) := by decide +kernel
theorem dX6_free_42 : decode cX6_free 42 = .ok (.aload_n 0, 1) := by decide +kernel
theorem dX6_free_43 : decode cX6_free 43 = .ok (.iconst 2, 1) := by decide +kernel
theorem dX6_free_44 : decode cX6_free 44 = .ok (.invokevirtual 115, 3) := by decide +kernel
theorem dX6_free_47 : decode cX6_free 47 = .ok (.ireturn, 1) := by decide +kernel
theorem dX6_free_48 : decode cX6_free 48 = .ok (.iconst (-1), 1) := by decide +kernel
theorem dX6_free_49 : decode cX6_free 49 = .ok (.istore 4, 2) := by decide +kernel
theorem dX6_free_51 : decode cX6_free 51 = .ok (.iconst 0, 1) := by decide +kernel
theorem dX6_free_52 : decode cX6_free 52 = .ok (.istore 5, 2) := by decide +kernel
theorem dX6_free_54 : decode cX6_free 54 = .ok (.iload 5, 2) := by decide +kernel
theorem dX6_free_56 : decode cX6_free 56 = .ok (.aload_n 0, 1) := by decide +kernel
theorem dX6_free_57 : decode cX6_free 57 = .ok (.getfield 252, 3) := by decide +kernel
theorem dX6_free_60 : decode cX6_free 60 = .ok (.if_icmp .ge 46, 3) := by decide +kernel
theorem dX6_free_63 : decode cX6_free 63 = .ok (.aload_n 0, 1) := by decide +kernel
theorem dX6_free_64 : decode cX6_free 64 = .ok (.getfield 86, 3) := by decide +kernel
theorem dX6_free_67 : decode cX6_free 67 = .ok (.iload 5, 2) := by decide +kernel
theorem dX6_free_69 : decode cX6_free 69 = .ok (.iaload, 1) := by decide +kernel
theorem dX6_free_70 : decode cX6_free 70 = .ok (.iload_n 2, 1) := by decide +kernel
theorem dX6_free_71 : decode cX6_free 71 = .ok (.if_icmp .gt 29, 3) := by decide +kernel
theorem dX6_free_74 : decode cX6_free 74 = .ok (.iload 4, 2) := by decide +kernel
theorem dX6_free_76 : decode cX6_free 76 = .ok (.ifCond .lt 20, 3) := by decide +kernel
theorem dX6_free_79 : decode cX6_free 79 = .ok (.aload_n 0, 1) := by decide +kernel
theorem dX6_free_80 : decode cX6_free 80 = .ok (.getfield 86, 3) := by decide +kernel
theorem dX6_free_83 : decode cX6_free 83 = .ok (.iload 5, 2) := by decide +kernel
theorem dX6_free_85 : decode cX6_free 85 = .ok (.iaload, 1) := by decide +kernel
theorem dX6_free_86 : decode cX6_free 86 = .ok (.aload_n 0, 1) := by decide +kernel
theorem dX6_free_87 : decode cX6_free 87 = .ok (.getfield 86, 3) := by decide +kernel
theorem dX6_free_90 : decode cX6_free 90 = .ok (.iload 4, 2) := by decide +kernel
theorem dX6_free_92 : decode cX6_free 92 = .ok (.iaload, 1) := by decide +kernel
theorem dX6_free_93 : decode cX6_free 93 = .ok (.if_icmp .lt 7, 3) := by decide +kernel
theorem dX6_free_96 : decode cX6_free 96 = .ok (.iload 5, 2) := by decide +kernel
theorem dX6_free_98 : decode cX6_free 98 = .ok (.istore 4, 2) := by decide +kernel
theorem dX6_free_100 : decode cX6_free 100 = .ok (.iinc 5 1, 3) := by decide +kernel
theorem dX6_free_103 : decode cX6_free 103 = .ok (.goto (-49), 3) := by decide +kernel
theorem dX6_free_106 : decode cX6_free 106 = .ok (.iconst (-1), 1) := by decide +kernel
theorem dX6_free_107 : decode cX6_free 107 = .ok (.istore 5, 2) := by decide +kernel
theorem dX6_free_109 : decode cX6_free 109 = .ok (.iconst 0, 1) := by decide +kernel
theorem dX6_free_110 : decode cX6_free 110 = .ok (.istore 6, 2) := by decide +kernel
theorem dX6_free_112 : decode cX6_free 112 = .ok (.iload 6, 2) := by decide +kernel
theorem dX6_free_114 : decode cX6_free 114 = .ok (.aload_n 0, 1) := by decide +kernel
theorem dX6_free_115 : decode cX6_free 115 = .ok (.getfield 255, 3) := by decide +kernel
theorem dX6_free_118 : decode cX6_free 118 = .ok (.if_icmp .ge 57, 3) := by decide +kernel
theorem dX6_free_121 : decode cX6_free 121 = .ok (.aload_n 0, 1) := by decide +kernel
theorem dX6_free_122 : decode cX6_free 122 = .ok (.getfield 92, 3) := by decide +kernel
theorem dX6_free_125 : decode cX6_free 125 = .ok (.iload 6, 2) := by decide +kernel
theorem dX6_free_127 : decode cX6_free 127 = .ok (.iaload, 1) := by decide +kernel
theorem dX6_free_128 : decode cX6_free 128 = .ok (.iload_n 1, 1) := by decide +kernel
theorem dX6_free_129 : decode cX6_free 129 = .ok (.if_icmp .ne 40, 3) := by decide +kernel
theorem dX6_free_132 : decode cX6_free 132 = .ok (.aload_n 0, 1) := by decide +kernel
theorem dX6_free_133 : decode cX6_free 133 = .ok (.getfield 98, 3) := by decide +kernel
theorem dX6_free_136 : decode cX6_free 136 = .ok (.iload 6, 2) := by decide +kernel
theorem dX6_free_138 : decode cX6_free 138 = .ok (.iaload, 1) := by decide +kernel
theorem dX6_free_139 : decode cX6_free 139 = .ok (.iload_n 3, 1) := by decide +kernel
theorem dX6_free_140 : decode cX6_free 140 = .ok (.if_icmp .gt 29, 3) := by decide +kernel
theorem dX6_free_143 : decode cX6_free 143 = .ok (.iload 5, 2) := by decide +kernel
theorem dX6_free_145 : decode cX6_free 145 = .ok (.ifCond .lt 20, 3) := by decide +kernel
theorem dX6_free_148 : decode cX6_free 148 = .ok (.aload_n 0, 1) := by decide +kernel
theorem dX6_free_149 : decode cX6_free 149 = .ok (.getfield 98, 3) := by decide +kernel
theorem dX6_free_152 : decode cX6_free 152 = .ok (.iload 6, 2) := by decide +kernel
theorem dX6_free_154 : decode cX6_free 154 = .ok (.iaload, 1) := by decide +kernel
theorem dX6_free_155 : decode cX6_free 155 = .ok (.aload_n 0, 1) := by decide +kernel
theorem dX6_free_156 : decode cX6_free 156 = .ok (.getfield 98, 3) := by decide +kernel
theorem dX6_free_159 : decode cX6_free 159 = .ok (.iload 5, 2) := by decide +kernel
theorem dX6_free_161 : decode cX6_free 161 = .ok (.iaload, 1) := by decide +kernel
theorem dX6_free_162 : decode cX6_free 162 = .ok (.if_icmp .lt 7, 3) := by decide +kernel
theorem dX6_free_165 : decode cX6_free 165 = .ok (.iload 6, 2) := by decide +kernel
theorem dX6_free_167 : decode cX6_free 167 = .ok (.istore 5, 2) := by decide +kernel
theorem dX6_free_169 : decode cX6_free 169 = .ok (.iinc 6 1, 3) := by decide +kernel
theorem dX6_free_172 : decode cX6_free 172 = .ok (.goto (-60), 3) := by decide +kernel
theorem dX6_free_175 : decode cX6_free 175 = .ok (.iload 4, 2) := by decide +kernel
theorem dX6_free_177 : decode cX6_free 177 = .ok (.ifCond .lt 31, 3) := by decide +kernel
theorem dX6_free_180 : decode cX6_free 180 = .ok (.iload 5, 2) := by decide +kernel
theorem dX6_free_182 : decode cX6_free 182 = .ok (.ifCond .lt 26, 3) := by decide +kernel
theorem dX6_free_185 : decode cX6_free 185 = .ok (.aload_n 0, 1) := by decide +kernel
theorem dX6_free_186 : decode cX6_free 186 = .ok (.getfield 95, 3) := by decide +kernel
theorem dX6_free_189 : decode cX6_free 189 = .ok (.iload 5, 2) := by decide +kernel
theorem dX6_free_191 : decode cX6_free 191 = .ok (.iaload, 1) := by decide +kernel
theorem dX6_free_192 : decode cX6_free 192 = .ok (.aload_n 0, 1) := by decide +kernel
theorem dX6_free_193 : decode cX6_free 193 = .ok (.getfield 89, 3) := by decide +kernel
theorem dX6_free_196 : decode cX6_free 196 = .ok (.iload 4, 2) := by decide +kernel
theorem dX6_free_198 : decode cX6_free 198 = .ok (.iaload, 1) := by decide +kernel
theorem dX6_free_199 : decode cX6_free 199 = .ok (.iadd, 1) := by decide +kernel
theorem dX6_free_200 : decode cX6_free 200 = .ok (.iload_n 2, 1) := by decide +kernel
theorem dX6_free_201 : decode cX6_free 201 = .ok (.if_icmp .gt 7, 3) := by decide +kernel
theorem dX6_free_204 : decode cX6_free 204 = .ok (.iconst 1, 1) := by decide +kernel
theorem dX6_free_205 : decode cX6_free 205 = .ok (.goto 4, 3) := by decide +kernel
theorem dX6_free_208 : decode cX6_free 208 = .ok (.iconst 0, 1) := by decide +kernel
theorem dX6_free_209 : decode cX6_free 209 = .ok (.ireturn, 1) := by decide +kernel
theorem dJ6_bitCount_0f7a4_0 : decode cJ6_bitCount_0f7a4 0 = .ok (.iload_n 0, 1) := by decide +kernel
theorem dJ6_bitCount_0f7a4_1 : decode cJ6_bitCount_0f7a4 1 = .ok (.iload_n 0, 1) := by decide +kernel
theorem dJ6_bitCount_0f7a4_2 : decode cJ6_bitCount_0f7a4 2 = .ok (.iconst 1, 1) := by decide +kernel
theorem dJ6_bitCount_0f7a4_3 : decode cJ6_bitCount_0f7a4 3 = .ok (.iushr, 1) := by decide +kernel
theorem dJ6_bitCount_0f7a4_4 : decode cJ6_bitCount_0f7a4 4 = .ok (.ldc_w 265, 3) := by decide +kernel
theorem dJ6_bitCount_0f7a4_7 : decode cJ6_bitCount_0f7a4 7 = .ok (.iand, 1) := by decide +kernel
theorem dJ6_bitCount_0f7a4_8 : decode cJ6_bitCount_0f7a4 8 = .ok (.isub, 1) := by decide +kernel
theorem dJ6_bitCount_0f7a4_9 : decode cJ6_bitCount_0f7a4 9 = .ok (.istore_n 0, 1) := by decide +kernel
theorem dJ6_bitCount_0f7a4_10 : decode cJ6_bitCount_0f7a4 10 = .ok (.iload_n 0, 1) := by decide +kernel
theorem dJ6_bitCount_0f7a4_11 : decode cJ6_bitCount_0f7a4 11 = .ok (.ldc_w 266, 3) := by decide +kernel
theorem dJ6_bitCount_0f7a4_14 : decode cJ6_bitCount_0f7a4 14 = .ok (.iand, 1) := by decide +kernel
theorem dJ6_bitCount_0f7a4_15 : decode cJ6_bitCount_0f7a4 15 = .ok (.iload_n 0, 1) := by decide +kernel
theorem dJ6_bitCount_0f7a4_16 : decode cJ6_bitCount_0f7a4 16 = .ok (.iconst 2, 1) := by decide +kernel
theorem dJ6_bitCount_0f7a4_17 : decode cJ6_bitCount_0f7a4 17 = .ok (.iushr, 1) := by decide +kernel
theorem dJ6_bitCount_0f7a4_18 : decode cJ6_bitCount_0f7a4 18 = .ok (.ldc_w 266, 3) := by decide +kernel
theorem dJ6_bitCount_0f7a4_21 : decode cJ6_bitCount_0f7a4 21 = .ok (.iand, 1) := by decide +kernel
theorem dJ6_bitCount_0f7a4_22 : decode cJ6_bitCount_0f7a4 22 = .ok (.iadd, 1) := by decide +kernel
theorem dJ6_bitCount_0f7a4_23 : decode cJ6_bitCount_0f7a4 23 = .ok (.istore_n 0, 1) := by decide +kernel
theorem dJ6_bitCount_0f7a4_24 : decode cJ6_bitCount_0f7a4 24 = .ok (.iload_n 0, 1) := by decide +kernel
theorem dJ6_bitCount_0f7a4_25 : decode cJ6_bitCount_0f7a4 25 = .ok (.iload_n 0, 1) := by decide +kernel
theorem dJ6_bitCount_0f7a4_26 : decode cJ6_bitCount_0f7a4 26 = .ok (.iconst 4, 1) := by decide +kernel
theorem dJ6_bitCount_0f7a4_27 : decode cJ6_bitCount_0f7a4 27 = .ok (.iushr, 1) := by decide +kernel
theorem dJ6_bitCount_0f7a4_28 : decode cJ6_bitCount_0f7a4 28 = .ok (.iadd, 1) := by decide +kernel
theorem dJ6_bitCount_0f7a4_29 : decode cJ6_bitCount_0f7a4 29 = .ok (.ldc_w 267, 3) := by decide +kernel
theorem dJ6_bitCount_0f7a4_32 : decode cJ6_bitCount_0f7a4 32 = .ok (.iand, 1) := by decide +kernel
theorem dJ6_bitCount_0f7a4_33 : decode cJ6_bitCount_0f7a4 33 = .ok (.istore_n 0, 1) := by decide +kernel
theorem dJ6_bitCount_0f7a4_34 : decode cJ6_bitCount_0f7a4 34 = .ok (.iload_n 0, 1) := by decide +kernel
theorem dJ6_bitCount_0f7a4_35 : decode cJ6_bitCount_0f7a4 35 = .ok (.iload_n 0, 1) := by decide +kernel
theorem dJ6_bitCount_0f7a4_36 : decode cJ6_bitCount_0f7a4 36 = .ok (.bipush 8, 2) := by decide +kernel
theorem dJ6_bitCount_0f7a4_38 : decode cJ6_bitCount_0f7a4 38 = .ok (.iushr, 1) := by decide +kernel
theorem dJ6_bitCount_0f7a4_39 : decode cJ6_bitCount_0f7a4 39 = .ok (.iadd, 1) := by decide +kernel
theorem dJ6_bitCount_0f7a4_40 : decode cJ6_bitCount_0f7a4 40 = .ok (.istore_n 0, 1) := by decide +kernel
theorem dJ6_bitCount_0f7a4_41 : decode cJ6_bitCount_0f7a4 41 = .ok (.iload_n 0, 1) := by decide +kernel
theorem dJ6_bitCount_0f7a4_42 : decode cJ6_bitCount_0f7a4 42 = .ok (.iload_n 0, 1) := by decide +kernel
theorem dJ6_bitCount_0f7a4_43 : decode cJ6_bitCount_0f7a4 43 = .ok (.bipush 16, 2) := by decide +kernel
theorem dJ6_bitCount_0f7a4_45 : decode cJ6_bitCount_0f7a4 45 = .ok (.iushr, 1) := by decide +kernel
theorem dJ6_bitCount_0f7a4_46 : decode cJ6_bitCount_0f7a4 46 = .ok (.iadd, 1) := by decide +kernel
theorem dJ6_bitCount_0f7a4_47 : decode cJ6_bitCount_0f7a4 47 = .ok (.istore_n 0, 1) := by decide +kernel
theorem dJ6_bitCount_0f7a4_48 : decode cJ6_bitCount_0f7a4 48 = .ok (.iload_n 0, 1) := by decide +kernel
theorem dJ6_bitCount_0f7a4_49 : decode cJ6_bitCount_0f7a4 49 = .ok (.bipush 63, 2) := by decide +kernel
theorem dJ6_bitCount_0f7a4_51 : decode cJ6_bitCount_0f7a4 51 = .ok (.iand, 1) := by decide +kernel
theorem dJ6_bitCount_0f7a4_52 : decode cJ6_bitCount_0f7a4 52 = .ok (.ireturn, 1) := by decide +kernel
theorem dJ9_max_7cf53_0 : decode cJ9_max_7cf53 0 = .ok (.iload_n 0, 1) := by decide +kernel
theorem dJ9_max_7cf53_1 : decode cJ9_max_7cf53 1 = .ok (.iload_n 1, 1) := by decide +kernel
theorem dJ9_max_7cf53_2 : decode cJ9_max_7cf53 2 = .ok (.if_icmp .lt 7, 3) := by decide +kernel
theorem dJ9_max_7cf53_5 : decode cJ9_max_7cf53 5 = .ok (.iload_n 0, 1) := by decide +kernel
theorem dJ9_max_7cf53_6 : decode cJ9_max_7cf53 6 = .ok (.goto 4, 3) := by decide +kernel
theorem dJ9_max_7cf53_9 : decode cJ9_max_7cf53 9 = .ok (.iload_n 1, 1) := by decide +kernel
theorem dJ9_max_7cf53_10 : decode cJ9_max_7cf53 10 = .ok (.ireturn, 1) := by decide +kernel
theorem dJ9_max_f86c9_0 : decode cJ9_max_f86c9 0 = .ok (.lload_n 0, 1) := by decide +kernel
theorem dJ9_max_f86c9_1 : decode cJ9_max_f86c9 1 = .ok (.lload_n 2, 1) := by decide +kernel
theorem dJ9_max_f86c9_2 : decode cJ9_max_f86c9 2 = .ok (.lcmp, 1) := by decide +kernel
theorem dJ9_max_f86c9_3 : decode cJ9_max_f86c9 3 = .ok (.ifCond .lt 7, 3) := by decide +kernel
theorem dJ9_max_f86c9_6 : decode cJ9_max_f86c9 6 = .ok (.lload_n 0, 1) := by decide +kernel
theorem dJ9_max_f86c9_7 : decode cJ9_max_f86c9 7 = .ok (.goto 4, 3) := by decide +kernel
theorem dJ9_max_f86c9_10 : decode cJ9_max_f86c9 10 = .ok (.lload_n 2, 1) := by decide +kernel
theorem dJ9_max_f86c9_11 : decode cJ9_max_f86c9 11 = .ok (.lreturn, 1) := by decide +kernel
theorem dJ9_min_7cf53_0 : decode cJ9_min_7cf53 0 = .ok (.iload_n 0, 1) := by decide +kernel
theorem dJ9_min_7cf53_1 : decode cJ9_min_7cf53 1 = .ok (.iload_n 1, 1) := by decide +kernel
theorem dJ9_min_7cf53_2 : decode cJ9_min_7cf53 2 = .ok (.if_icmp .gt 7, 3) := by decide +kernel
theorem dJ9_min_7cf53_5 : decode cJ9_min_7cf53 5 = .ok (.iload_n 0, 1) := by decide +kernel
theorem dJ9_min_7cf53_6 : decode cJ9_min_7cf53 6 = .ok (.goto 4, 3) := by decide +kernel
theorem dJ9_min_7cf53_9 : decode cJ9_min_7cf53 9 = .ok (.iload_n 1, 1) := by decide +kernel
theorem dJ9_min_7cf53_10 : decode cJ9_min_7cf53 10 = .ok (.ireturn, 1) := by decide +kernel
theorem dJ7_fill_d0a16_0 : decode cJ7_fill_d0a16 0 = .ok (.iconst 0, 1) := by decide +kernel
theorem dJ7_fill_d0a16_1 : decode cJ7_fill_d0a16 1 = .ok (.istore_n 3, 1) := by decide +kernel
theorem dJ7_fill_d0a16_2 : decode cJ7_fill_d0a16 2 = .ok (.aload_n 0, 1) := by decide +kernel
theorem dJ7_fill_d0a16_3 : decode cJ7_fill_d0a16 3 = .ok (.arraylength, 1) := by decide +kernel
theorem dJ7_fill_d0a16_4 : decode cJ7_fill_d0a16 4 = .ok (.istore 4, 2) := by decide +kernel
theorem dJ7_fill_d0a16_6 : decode cJ7_fill_d0a16 6 = .ok (.iload_n 3, 1) := by decide +kernel
theorem dJ7_fill_d0a16_7 : decode cJ7_fill_d0a16 7 = .ok (.iload 4, 2) := by decide +kernel
theorem dJ7_fill_d0a16_9 : decode cJ7_fill_d0a16 9 = .ok (.if_icmp .ge 13, 3) := by decide +kernel
theorem dJ7_fill_d0a16_12 : decode cJ7_fill_d0a16 12 = .ok (.aload_n 0, 1) := by decide +kernel
theorem dJ7_fill_d0a16_13 : decode cJ7_fill_d0a16 13 = .ok (.iload_n 3, 1) := by decide +kernel
theorem dJ7_fill_d0a16_14 : decode cJ7_fill_d0a16 14 = .ok (.lload_n 1, 1) := by decide +kernel
theorem dJ7_fill_d0a16_15 : decode cJ7_fill_d0a16 15 = .ok (.lastore, 1) := by decide +kernel
theorem dJ7_fill_d0a16_16 : decode cJ7_fill_d0a16 16 = .ok (.iinc 3 1, 3) := by decide +kernel
theorem dJ7_fill_d0a16_19 : decode cJ7_fill_d0a16 19 = .ok (.goto (-13), 3) := by decide +kernel
end
section
theorem dJ7_fill_d0a16_22 : decode cJ7_fill_d0a16 22 = .ok (.return_, 1) := by decide +kernel
theorem dJ7_fill_53178_0 : decode cJ7_fill_53178 0 = .ok (.iconst 0, 1) := by decide +kernel
theorem dJ7_fill_53178_1 : decode cJ7_fill_53178 1 = .ok (.istore_n 2, 1) := by decide +kernel
theorem dJ7_fill_53178_2 : decode cJ7_fill_53178 2 = .ok (.aload_n 0, 1) := by decide +kernel
theorem dJ7_fill_53178_3 : decode cJ7_fill_53178 3 = .ok (.arraylength, 1) := by decide +kernel
theorem dJ7_fill_53178_4 : decode cJ7_fill_53178 4 = .ok (.istore_n 3, 1) := by decide +kernel
theorem dJ7_fill_53178_5 : decode cJ7_fill_53178 5 = .ok (.iload_n 2, 1) := by decide +kernel
theorem dJ7_fill_53178_6 : decode cJ7_fill_53178 6 = .ok (.iload_n 3, 1) := by decide +kernel
theorem dJ7_fill_53178_7 : decode cJ7_fill_53178 7 = .ok (.if_icmp .ge 13, 3) := by decide +kernel
theorem dJ7_fill_53178_10 : decode cJ7_fill_53178 10 = .ok (.aload_n 0, 1) := by decide +kernel
theorem dJ7_fill_53178_11 : decode cJ7_fill_53178 11 = .ok (.iload_n 2, 1) := by decide +kernel
theorem dJ7_fill_53178_12 : decode cJ7_fill_53178 12 = .ok (.iload_n 1, 1) := by decide +kernel
theorem dJ7_fill_53178_13 : decode cJ7_fill_53178 13 = .ok (.iastore, 1) := by decide +kernel
theorem dJ7_fill_53178_14 : decode cJ7_fill_53178 14 = .ok (.iinc 2 1, 3) := by decide +kernel
theorem dJ7_fill_53178_17 : decode cJ7_fill_53178 17 = .ok (.goto (-12), 3) := by decide +kernel
theorem dJ7_fill_53178_20 : decode cJ7_fill_53178 20 = .ok (.return_, 1) := by decide +kernel
set_option maxRecDepth 20000 in
theorem ggL_law_X5_init : GoodIn wsL_law wsX5_init := goodIn_r _ [8, 9, 10, 11, 12, 13, 14, 15, 16, 17, 18, 19, 20, 21, 22, 23, 24, 25, 26, 27, 28, 29, 30, 31, 32, 33, 34, 35, 36, 37, 38, 39, 40, 41, 42, 43, 44, 45, 46, 47, 48, 49, 50, 51, 52, 53, 54, 55, 56, 57, 58, 59, 60, 61, 62, 63, 64, 65, 66, 67, 68, 69, 70, 71, 72, 73, 74, 75, 76, 77, 78, 79, 80, 81, 82, 83, 84, 85, 86, 87, 88, 89, 90, 820, 821, 822, 823, 824, 825, 826, 827, 769, 770, 771, 772, 773, 774, 775, 776, 777, 778, 828, 829, 830, 831, 832, 833, 834, 835, 836, 837, 838, 839, 840, 841, 842, 843, 844, 845, 846, 847, 848, 849, 850, 851] (by decide +kernel) (by decide +kernel)
set_option maxRecDepth 20000 in
theorem gL_law_X5_init : GoodIn wsL_law (wsX5_init) := ggL_law_X5_init
set_option maxRecDepth 20000 in
theorem ggL_law_X6_init : GoodIn wsL_law wsX6_init := goodIn_r _ [93, 94, 10, 11, 32, 95, 96, 97, 98, 99, 100, 101, 102, 77, 103, 104, 105, 106, 107, 108, 109, 110, 111, 112, 113, 114, 115, 116, 117, 118, 119, 120, 121, 122, 123, 124, 779, 780, 781, 782, 783, 784, 785, 786, 787, 788, 789, 790, 791, 792, 793, 794, 795, 796, 797, 798, 799, 800, 801, 802, 803, 804, 805, 806, 807, 808, 809, 810, 811, 812, 813, 814, 815, 816, 817, 818, 819] (by decide +kernel) (by decide +kernel)
set_option maxRecDepth 20000 in
theorem gL_law_X6_init : GoodIn wsL_law (wsX6_init) := ggL_law_X6_init
set_option maxRecDepth 20000 in
theorem ggL_law_X5_status : GoodIn wsL_law wsX5_status := goodIn_r _ [128, 34, 769, 770, 771, 772, 773, 774, 775, 776, 777, 778] (by decide +kernel) (by decide +kernel)
set_option maxRecDepth 20000 in
theorem gL_law_X5_status : GoodIn wsL_law (wsV RL 13 RX5 yX5_status wsX5_status) := goodIn_app (goodIn_of _ (by decide +kernel)) ggL_law_X5_status
set_option maxRecDepth 20000 in
theorem ggL_law_X6_status : GoodIn wsL_law wsX6_status := goodIn_r _ [132, 133, 134, 779, 780, 781, 782, 783, 784, 785, 786, 787, 788, 789, 790, 791, 792, 793, 794, 795, 796, 797, 798, 799, 800, 801, 802, 803, 804, 805, 806, 807, 808, 809, 810, 811, 812, 813, 814, 815, 816, 817, 818, 819] (by decide +kernel) (by decide +kernel)
set_option maxRecDepth 20000 in
theorem gL_law_X6_status : GoodIn wsL_law (wsV RL 17 RX6 yX6_status wsX6_status) := goodIn_app (goodIn_of _ (by decide +kernel)) ggL_law_X6_status
set_option maxRecDepth 20000 in
theorem ggL_law_X5_plate : GoodIn wsL_law wsX5_plate := goodIn_r _ [138, 139, 140, 141, 142, 2, 143, 34, 144, 145, 146, 147, 769, 770, 771, 772, 773, 774, 775, 776, 777, 778] (by decide +kernel) (by decide +kernel)
set_option maxRecDepth 20000 in
theorem gL_law_X5_plate : GoodIn wsL_law (wsV RL 18 RX5 yX5_plate wsX5_plate) := goodIn_app (goodIn_of _ (by decide +kernel)) ggL_law_X5_plate
set_option maxRecDepth 20000 in
theorem ggL_law_X6_plate : GoodIn wsL_law wsX6_plate := goodIn_r _ [151, 133, 134, 152, 107, 108, 113, 114, 115, 153, 154, 155, 5, 156, 779, 780, 781, 782, 783, 784, 785, 786, 787, 788, 789, 790, 791, 792, 793, 794, 795, 796, 797, 798, 799, 800, 801, 802, 803, 804, 805, 806, 807, 808, 809, 810, 811, 812, 813, 814, 815, 816, 817, 818, 819] (by decide +kernel) (by decide +kernel)
set_option maxRecDepth 20000 in
theorem gL_law_X6_plate : GoodIn wsL_law (wsV RL 21 RX6 yX6_plate wsX6_plate) := goodIn_app (goodIn_of _ (by decide +kernel)) ggL_law_X6_plate
set_option maxRecDepth 20000 in
theorem ggL_law_X5_motif : GoodIn wsL_law wsX5_motif := goodIn_r _ [160, 161, 140, 141, 142, 2, 143, 34, 144, 145, 146, 147, 769, 770, 771, 772, 773, 774, 775, 776, 777, 778] (by decide +kernel) (by decide +kernel)
set_option maxRecDepth 20000 in
theorem gL_law_X5_motif : GoodIn wsL_law (wsV RL 22 RX5 yX5_motif wsX5_motif) := goodIn_app (goodIn_of _ (by decide +kernel)) ggL_law_X5_motif
set_option maxRecDepth 20000 in
theorem ggL_law_X6_motif : GoodIn wsL_law wsX6_motif := goodIn_r _ [165, 133, 134, 166, 153, 154, 155, 5, 156, 779, 780, 781, 782, 783, 784, 785, 786, 787, 788, 789, 790, 791, 792, 793, 794, 795, 796, 797, 798, 799, 800, 801, 802, 803, 804, 805, 806, 807, 808, 809, 810, 811, 812, 813, 814, 815, 816, 817, 818, 819] (by decide +kernel) (by decide +kernel)
set_option maxRecDepth 20000 in
theorem gL_law_X6_motif : GoodIn wsL_law (wsV RL 25 RX6 yX6_motif wsX6_motif) := goodIn_app (goodIn_of _ (by decide +kernel)) ggL_law_X6_motif
set_option maxRecDepth 20000 in
theorem ggL_law_X5_shows : GoodIn wsL_law wsX5_shows := goodIn_r _ [170, 15, 171, 172, 173, 2, 174, 139, 175, 176, 177, 178, 161, 179, 180, 181, 182, 183, 184, 185, 186, 187, 188, 189, 190, 191, 192, 193, 194, 14, 195, 196, 140, 141, 142, 143, 34, 197, 198, 199, 200, 38, 39, 40, 201, 202, 203, 204, 205, 206, 207, 208, 209, 210, 211, 41, 42, 43, 44, 144, 145, 146, 147, 769, 770, 771, 772, 773, 774, 775, 776, 777, 778, 820, 821, 822, 823, 824, 825, 826, 827] (by decide +kernel) (by decide +kernel)
set_option maxRecDepth 20000 in
theorem gL_law_X5_shows : GoodIn wsL_law (wsV RL 26 RX5 yX5_shows wsX5_shows) := goodIn_app (goodIn_of _ (by decide +kernel)) ggL_law_X5_shows
set_option maxRecDepth 20000 in
theorem ggL_law_X6_shows : GoodIn wsL_law wsX6_shows := goodIn_r _ [215, 133, 134, 216, 217, 218, 5, 219, 152, 220, 221, 222, 223, 166, 153, 154, 155, 156, 224, 225, 226, 227, 228, 229, 230, 231, 95, 96, 97, 98, 99, 100, 779, 780, 781, 782, 783, 784, 785, 786, 787, 788, 789, 790, 791, 792, 793, 794, 795, 796, 797, 798, 799, 800, 801, 802, 803, 804, 805, 806, 807, 808, 809, 810, 811, 812, 813, 814, 815, 816, 817, 818, 819] (by decide +kernel) (by decide +kernel)
set_option maxRecDepth 20000 in
theorem gL_law_X6_shows : GoodIn wsL_law (wsV RL 30 RX6 yX6_shows wsX6_shows) := goodIn_app (goodIn_of _ (by decide +kernel)) ggL_law_X6_shows
set_option maxRecDepth 20000 in
theorem ggL_law_X5_ahead : GoodIn wsL_law wsX5_ahead := goodIn_r _ [235, 236, 237, 15, 238, 239, 240, 2, 241, 171, 172, 173, 174, 139, 182, 183, 184, 179, 180, 181, 185, 186, 187, 188, 189, 190, 191, 192, 193, 194, 14, 195, 196, 140, 141, 142, 143, 34, 197, 198, 199, 200, 38, 39, 40, 201, 202, 203, 204, 208, 209, 210, 211, 41, 42, 43, 44, 144, 145, 146, 147, 769, 770, 771, 772, 773, 774, 775, 776, 777, 778, 820, 821, 822, 823, 824, 825, 826, 827] (by decide +kernel) (by decide +kernel)
set_option maxRecDepth 20000 in
theorem gL_law_X5_ahead : GoodIn wsL_law (wsV RL 31 RX5 yX5_ahead wsX5_ahead) := goodIn_app (goodIn_of _ (by decide +kernel)) ggL_law_X5_ahead
set_option maxRecDepth 20000 in
theorem ggL_law_X6_ahead : GoodIn wsL_law wsX6_ahead := goodIn_r _ [245, 133, 134, 246, 247, 216, 217, 218, 5, 219, 152, 153, 154, 155, 156, 224, 225, 226, 227, 228, 229, 230, 231, 95, 96, 97, 98, 99, 100, 779, 780, 781, 782, 783, 784, 785, 786, 787, 788, 789, 790, 791, 792, 793, 794, 795, 796, 797, 798, 799, 800, 801, 802, 803, 804, 805, 806, 807, 808, 809, 810, 811, 812, 813, 814, 815, 816, 817, 818, 819] (by decide +kernel) (by decide +kernel)
set_option maxRecDepth 20000 in
theorem gL_law_X6_ahead : GoodIn wsL_law (wsV RL 35 RX6 yX6_ahead wsX6_ahead) := goodIn_app (goodIn_of _ (by decide +kernel)) ggL_law_X6_ahead
set_option maxRecDepth 20000 in
theorem ggL_law_X5_same : GoodIn wsL_law wsX5_same := goodIn_r _ [251, 15, 238, 239, 240, 2, 241, 171, 172, 173, 174, 139, 179, 180, 181, 182, 183, 184, 185, 186, 187, 188, 189, 190, 191, 192, 193, 194, 14, 195, 196, 140, 141, 142, 143, 34, 197, 198, 199, 200, 38, 39, 40, 201, 202, 203, 204, 208, 209, 210, 211, 41, 42, 43, 44, 144, 145, 146, 147, 769, 770, 771, 772, 773, 774, 775, 776, 777, 778, 820, 821, 822, 823, 824, 825, 826, 827] (by decide +kernel) (by decide +kernel)
set_option maxRecDepth 20000 in
theorem gL_law_X5_same : GoodIn wsL_law (wsV RL 36 RX5 yX5_same wsX5_same) := goodIn_app (goodIn_of _ (by decide +kernel)) ggL_law_X5_same
set_option maxRecDepth 20000 in
theorem ggL_law_X6_same : GoodIn wsL_law wsX6_same := goodIn_r _ [255, 133, 134, 216, 217, 218, 5, 219, 152, 153, 154, 155, 156, 224, 225, 226, 227, 228, 229, 230, 231, 95, 96, 97, 98, 99, 100, 779, 780, 781, 782, 783, 784, 785, 786, 787, 788, 789, 790, 791, 792, 793, 794, 795, 796, 797, 798, 799, 800, 801, 802, 803, 804, 805, 806, 807, 808, 809, 810, 811, 812, 813, 814, 815, 816, 817, 818, 819] (by decide +kernel) (by decide +kernel)
set_option maxRecDepth 20000 in
theorem gL_law_X6_same : GoodIn wsL_law (wsV RL 39 RX6 yX6_same wsX6_same) := goodIn_app (goodIn_of _ (by decide +kernel)) ggL_law_X6_same
set_option maxRecDepth 20000 in
theorem ggL_law_X5_taken : GoodIn wsL_law wsX5_taken := goodIn_r _ [259, 171, 172, 173, 2, 174, 139, 260, 261, 262, 237, 179, 180, 181, 182, 183, 184, 185, 186, 187, 188, 15, 189, 190, 191, 192, 193, 194, 14, 195, 196, 140, 141, 142, 143, 34, 202, 203, 204, 263, 264, 265, 266, 197, 198, 199, 200, 38, 39, 40, 201, 208, 209, 210, 211, 41, 42, 43, 44, 144, 145, 146, 147, 769, 770, 771, 772, 773, 774, 775, 776, 777, 778, 820, 821, 822, 823, 824, 825, 826, 827] (by decide +kernel) (by decide +kernel)
set_option maxRecDepth 20000 in
theorem gL_law_X5_taken : GoodIn wsL_law (wsV RL 40 RX5 yX5_taken wsX5_taken) := goodIn_app (goodIn_of _ (by decide +kernel)) ggL_law_X5_taken
set_option maxRecDepth 20000 in
theorem ggL_law_X6_taken : GoodIn wsL_law wsX6_taken := goodIn_r _ [270, 133, 134, 216, 217, 218, 5, 219, 152, 153, 154, 155, 156, 271, 272, 273, 247, 224, 225, 226, 227, 228, 229, 230, 231, 95, 96, 97, 98, 99, 100, 779, 780, 781, 782, 783, 784, 785, 786, 787, 788, 789, 790, 791, 792, 793, 794, 795, 796, 797, 798, 799, 800, 801, 802, 803, 804, 805, 806, 807, 808, 809, 810, 811, 812, 813, 814, 815, 816, 817, 818, 819] (by decide +kernel) (by decide +kernel)
set_option maxRecDepth 20000 in
theorem gL_law_X6_taken : GoodIn wsL_law (wsV RL 43 RX6 yX6_taken wsX6_taken) := goodIn_app (goodIn_of _ (by decide +kernel)) ggL_law_X6_taken
set_option maxRecDepth 20000 in
theorem ggL_law_X5_stood : GoodIn wsL_law wsX5_stood := goodIn_r _ [277, 175, 176, 177, 2, 178, 161, 260, 261, 262, 237, 179, 180, 181, 182, 183, 184, 185, 186, 187, 188, 15, 189, 190, 191, 192, 193, 194, 14, 195, 196, 140, 141, 142, 143, 34, 205, 206, 207, 263, 264, 265, 266, 197, 198, 199, 200, 38, 39, 40, 201, 208, 209, 210, 211, 41, 42, 43, 44, 144, 145, 146, 147, 769, 770, 771, 772, 773, 774, 775, 776, 777, 778, 820, 821, 822, 823, 824, 825, 826, 827] (by decide +kernel) (by decide +kernel)
set_option maxRecDepth 20000 in
theorem gL_law_X5_stood : GoodIn wsL_law (wsV RL 44 RX5 yX5_stood wsX5_stood) := goodIn_app (goodIn_of _ (by decide +kernel)) ggL_law_X5_stood
set_option maxRecDepth 20000 in
theorem ggL_law_X6_stood : GoodIn wsL_law wsX6_stood := goodIn_r _ [281, 133, 134, 220, 221, 222, 5, 223, 166, 153, 154, 155, 156, 271, 272, 273, 247, 224, 225, 226, 227, 228, 229, 230, 231, 95, 96, 97, 98, 99, 100, 779, 780, 781, 782, 783, 784, 785, 786, 787, 788, 789, 790, 791, 792, 793, 794, 795, 796, 797, 798, 799, 800, 801, 802, 803, 804, 805, 806, 807, 808, 809, 810, 811, 812, 813, 814, 815, 816, 817, 818, 819] (by decide +kernel) (by decide +kernel)
set_option maxRecDepth 20000 in
theorem gL_law_X6_stood : GoodIn wsL_law (wsV RL 48 RX6 yX6_stood wsX6_stood) := goodIn_app (goodIn_of _ (by decide +kernel)) ggL_law_X6_stood
set_option maxRecDepth 20000 in
theorem ggL_law_X5_cross : GoodIn wsL_law wsX5_cross := goodIn_r _ [285, 15, 34, 286, 287, 288, 14, 289, 196, 179, 180, 2, 181, 182, 183, 184, 189, 190, 191, 290, 291, 292, 293, 40, 294, 295, 296, 297, 298, 769, 770, 771, 772, 773, 774, 775, 776, 777, 778, 820, 821, 822, 823, 824, 825, 826, 827] (by decide +kernel) (by decide +kernel)
set_option maxRecDepth 20000 in
theorem gL_law_X5_cross : GoodIn wsL_law (wsV RL 49 RX5 yX5_cross wsX5_cross) := goodIn_app (goodIn_of _ (by decide +kernel)) ggL_law_X5_cross
set_option maxRecDepth 20000 in
theorem ggL_law_X6_cross : GoodIn wsL_law wsX6_cross := goodIn_r _ [302, 133, 134, 100, 303, 304, 305, 5, 306, 231, 307, 308, 309, 310, 224, 225, 226, 779, 780, 781, 782, 783, 784, 785, 786, 787, 788, 789, 790, 791, 792, 793, 794, 795, 796, 797, 798, 799, 800, 801, 802, 803, 804, 805, 806, 807, 808, 809, 810, 811, 812, 813, 814, 815, 816, 817, 818, 819] (by decide +kernel) (by decide +kernel)
set_option maxRecDepth 20000 in
theorem gL_law_X6_cross : GoodIn wsL_law (wsV RL 53 RX6 yX6_cross wsX6_cross) := goodIn_app (goodIn_of _ (by decide +kernel)) ggL_law_X6_cross
set_option maxRecDepth 20000 in
theorem ggL_law_X5_fact : GoodIn wsL_law wsX5_fact := goodIn_r _ [314, 15, 286, 287, 288, 14, 289, 196, 182, 183, 2, 184, 189, 190, 191, 140, 141, 142, 143, 34, 315, 316, 317, 318, 38, 294, 144, 145, 146, 147, 319, 320, 321, 322, 39, 290, 291, 292, 293, 40, 323, 324, 325, 326, 41, 769, 770, 771, 772, 773, 774, 775, 776, 777, 778, 820, 821, 822, 823, 824, 825, 826, 827] (by decide +kernel) (by decide +kernel)
set_option maxRecDepth 20000 in
theorem gL_law_X5_fact : GoodIn wsL_law (wsV RL 54 RX5 yX5_fact wsX5_fact) := goodIn_app (goodIn_of _ (by decide +kernel)) ggL_law_X5_fact
set_option maxRecDepth 20000 in
theorem ggL_law_X6_fact : GoodIn wsL_law wsX6_fact := goodIn_r _ [330, 133, 134, 95, 99, 100, 303, 304, 305, 5, 306, 231, 153, 154, 155, 156, 779, 780, 781, 782, 783, 784, 785, 786, 787, 788, 789, 790, 791, 792, 793, 794, 795, 796, 797, 798, 799, 800, 801, 802, 803, 804, 805, 806, 807, 808, 809, 810, 811, 812, 813, 814, 815, 816, 817, 818, 819] (by decide +kernel) (by decide +kernel)
set_option maxRecDepth 20000 in
theorem gL_law_X6_fact : GoodIn wsL_law (wsV RL 58 RX6 yX6_fact wsX6_fact) := goodIn_app (goodIn_of _ (by decide +kernel)) ggL_law_X6_fact
set_option maxRecDepth 20000 in
theorem ggL_law_X5_span : GoodIn wsL_law wsX5_span := goodIn_r _ [334, 171, 172, 173, 2, 174, 139, 179, 180, 181, 182, 183, 184, 189, 190, 191, 140, 141, 142, 143, 34, 202, 203, 204, 335, 336, 337, 338, 19, 15, 339, 340, 341, 18, 342, 343, 344, 345, 346, 14, 347, 196, 348, 349, 350, 351, 39, 40, 294, 287, 288, 289, 352, 353, 354, 355, 42, 43, 44, 356, 324, 325, 326, 41, 357, 358, 359, 360, 48, 49, 50, 361, 362, 363, 364, 51, 365, 366, 367, 368, 369, 370, 80, 81, 82, 371, 372, 373, 374, 375, 376, 377, 378, 379, 380, 381, 382, 383, 384, 385, 386, 387, 388, 389, 390, 391, 144, 145, 146, 147, 769, 770, 771, 772, 773, 774, 775, 776, 777, 778, 828, 829, 830, 831, 832, 833, 820, 821, 822, 823, 824, 825, 826, 827] (by decide +kernel) (by decide +kernel)
set_option maxRecDepth 20000 in
theorem gL_law_X5_span : GoodIn wsL_law (wsV RL 59 RX5 yX5_span wsX5_span) := goodIn_app (goodIn_of _ (by decide +kernel)) ggL_law_X5_span
set_option maxRecDepth 20000 in
theorem ggL_law_X6_span : GoodIn wsL_law wsX6_span := goodIn_r _ [395, 133, 134, 216, 217, 218, 5, 219, 152, 396, 397, 398, 399, 400, 401, 402, 104, 224, 225, 226, 153, 154, 155, 156, 403, 404, 405, 406, 407, 166, 408, 231, 96, 97, 95, 98, 409, 410, 411, 412, 413, 414, 415, 416, 417, 101, 102, 103, 418, 419, 420, 421, 422, 423, 424, 425, 426, 427, 99, 100, 428, 429, 430, 431, 432, 433, 434, 435, 436, 779, 780, 781, 782, 783, 784, 785, 786, 787, 788, 789, 790, 791, 792, 793, 794, 795, 796, 797, 798, 799, 800, 801, 802, 803, 804, 805, 806, 807, 808, 809, 810, 811, 812, 813, 814, 815, 816, 817, 818, 819] (by decide +kernel) (by decide +kernel)
set_option maxRecDepth 20000 in
theorem gL_law_X6_span : GoodIn wsL_law (wsV RL 63 RX6 yX6_span wsX6_span) := goodIn_app (goodIn_of _ (by decide +kernel)) ggL_law_X6_span
set_option maxRecDepth 20000 in
theorem ggL_law_X5_times : GoodIn wsL_law wsX5_times := goodIn_r _ [440, 175, 176, 177, 2, 178, 161, 179, 180, 181, 182, 183, 184, 189, 190, 191, 140, 141, 142, 143, 34, 205, 206, 207, 335, 336, 337, 338, 19, 15, 339, 340, 341, 18, 342, 343, 344, 345, 346, 14, 347, 196, 348, 349, 350, 351, 39, 40, 294, 287, 288, 289, 352, 353, 354, 355, 42, 43, 44, 356, 324, 325, 326, 41, 357, 358, 359, 360, 48, 49, 50, 361, 362, 363, 364, 51, 365, 366, 367, 368, 369, 370, 80, 81, 82, 371, 372, 373, 374, 375, 376, 377, 378, 379, 380, 381, 382, 383, 384, 385, 386, 387, 388, 389, 390, 391, 144, 145, 146, 147, 769, 770, 771, 772, 773, 774, 775, 776, 777, 778, 828, 829, 830, 831, 832, 833, 820, 821, 822, 823, 824, 825, 826, 827] (by decide +kernel) (by decide +kernel)
set_option maxRecDepth 20000 in
theorem gL_law_X5_times : GoodIn wsL_law (wsV RL 64 RX5 yX5_times wsX5_times) := goodIn_app (goodIn_of _ (by decide +kernel)) ggL_law_X5_times
set_option maxRecDepth 20000 in
theorem ggL_law_X6_times : GoodIn wsL_law wsX6_times := goodIn_r _ [444, 133, 134, 220, 221, 222, 5, 223, 166, 421, 422, 423, 418, 419, 420, 399, 400, 401, 402, 104, 224, 225, 226, 153, 154, 155, 156, 403, 404, 405, 406, 407, 152, 408, 231, 96, 97, 95, 98, 396, 397, 398, 409, 410, 411, 412, 413, 414, 415, 416, 417, 101, 102, 103, 424, 425, 426, 427, 99, 100, 428, 429, 430, 431, 432, 433, 434, 435, 436, 779, 780, 781, 782, 783, 784, 785, 786, 787, 788, 789, 790, 791, 792, 793, 794, 795, 796, 797, 798, 799, 800, 801, 802, 803, 804, 805, 806, 807, 808, 809, 810, 811, 812, 813, 814, 815, 816, 817, 818, 819] (by decide +kernel) (by decide +kernel)
set_option maxRecDepth 20000 in
theorem gL_law_X6_times : GoodIn wsL_law (wsV RL 68 RX6 yX6_times wsX6_times) := goodIn_app (goodIn_of _ (by decide +kernel)) ggL_law_X6_times
set_option maxRecDepth 20000 in
theorem ggL_law_X5_quarrel : GoodIn wsL_law wsX5_quarrel := goodIn_r _ [448, 19, 15, 179, 180, 2, 181, 182, 183, 184, 140, 141, 142, 143, 34, 339, 340, 341, 18, 342, 343, 344, 345, 346, 14, 347, 196, 348, 349, 350, 351, 39, 40, 294, 287, 288, 289, 352, 353, 354, 355, 42, 43, 44, 356, 324, 325, 326, 41, 357, 358, 359, 360, 48, 49, 50, 361, 362, 363, 364, 51, 365, 366, 367, 368, 369, 370, 80, 81, 82, 371, 372, 373, 374, 375, 376, 377, 378, 379, 380, 381, 382, 383, 384, 385, 386, 387, 449, 450, 451, 452, 453, 454, 455, 456, 52, 457, 458, 459, 460, 144, 145, 146, 147, 769, 770, 771, 772, 773, 774, 775, 776, 777, 778, 828, 829, 830, 831, 832, 833, 820, 821, 822, 823, 824, 825, 826, 827] (by decide +kernel) (by decide +kernel)
set_option maxRecDepth 20000 in
theorem gL_law_X5_quarrel : GoodIn wsL_law (wsV RL 69 RX5 yX5_quarrel wsX5_quarrel) := goodIn_app (goodIn_of _ (by decide +kernel)) ggL_law_X5_quarrel
set_option maxRecDepth 20000 in
theorem ggL_law_X6_quarrel : GoodIn wsL_law wsX6_quarrel := goodIn_r _ [464, 133, 134, 407, 408, 105, 104, 106, 224, 225, 5, 226, 153, 154, 155, 156, 403, 404, 405, 406, 152, 166, 231, 96, 97, 95, 98, 396, 397, 398, 409, 410, 411, 412, 413, 414, 415, 416, 417, 101, 102, 103, 418, 419, 420, 421, 422, 423, 424, 425, 426, 427, 99, 100, 428, 429, 430, 431, 432, 433, 434, 435, 436, 465, 466, 467, 468, 469, 470, 377, 471, 779, 780, 781, 782, 783, 784, 785, 786, 787, 788, 789, 790, 791, 792, 793, 794, 795, 796, 797, 798, 799, 800, 801, 802, 803, 804, 805, 806, 807, 808, 809, 810, 811, 812, 813, 814, 815, 816, 817, 818, 819] (by decide +kernel) (by decide +kernel)
set_option maxRecDepth 20000 in
theorem gL_law_X6_quarrel : GoodIn wsL_law (wsV RL 73 RX6 yX6_quarrel wsX6_quarrel) := goodIn_app (goodIn_of _ (by decide +kernel)) ggL_law_X6_quarrel
set_option maxRecDepth 20000 in
theorem ggL_law_X5_frees : GoodIn wsL_law wsX5_frees := goodIn_r _ [475, 15, 19, 286, 287, 288, 14, 289, 196, 179, 180, 2, 181, 182, 183, 184, 189, 190, 191, 140, 141, 142, 143, 34, 339, 340, 341, 18, 342, 343, 344, 345, 346, 347, 348, 349, 350, 351, 39, 40, 294, 352, 353, 354, 355, 42, 43, 44, 356, 324, 325, 326, 41, 357, 358, 359, 360, 48, 49, 50, 361, 362, 363, 364, 51, 365, 366, 367, 368, 369, 370, 80, 81, 82, 371, 372, 373, 374, 375, 376, 377, 378, 379, 380, 381, 382, 383, 384, 385, 386, 387, 476, 144, 145, 146, 147, 769, 770, 771, 772, 773, 774, 775, 776, 777, 778, 820, 821, 822, 823, 824, 825, 826, 827, 828, 829, 830, 831, 832, 833] (by decide +kernel) (by decide +kernel)
set_option maxRecDepth 20000 in
theorem gL_law_X5_frees : GoodIn wsL_law (wsV RL 74 RX5 yX5_frees wsX5_frees) := goodIn_app (goodIn_of _ (by decide +kernel)) ggL_law_X5_frees
set_option maxRecDepth 20000 in
theorem ggL_law_X6_frees : GoodIn wsL_law wsX6_frees := goodIn_r _ [480, 133, 134, 303, 304, 305, 5, 306, 231, 153, 154, 155, 156, 224, 225, 226, 403, 404, 405, 406, 407, 152, 166, 408, 96, 97, 95, 98, 396, 397, 398, 409, 410, 411, 412, 413, 414, 415, 416, 417, 101, 102, 103, 418, 419, 420, 421, 422, 423, 424, 425, 426, 427, 99, 100, 428, 429, 430, 431, 432, 433, 434, 435, 104, 436, 779, 780, 781, 782, 783, 784, 785, 786, 787, 788, 789, 790, 791, 792, 793, 794, 795, 796, 797, 798, 799, 800, 801, 802, 803, 804, 805, 806, 807, 808, 809, 810, 811, 812, 813, 814, 815, 816, 817, 818, 819] (by decide +kernel) (by decide +kernel)
set_option maxRecDepth 20000 in
theorem gL_law_X6_frees : GoodIn wsL_law (wsV RL 77 RX6 yX6_frees wsX6_frees) := goodIn_app (goodIn_of _ (by decide +kernel)) ggL_law_X6_frees
set_option maxRecDepth 20000 in
theorem ggL_law_X5_order : GoodIn wsL_law wsX5_order := goodIn_r _ [484, 19, 15, 238, 239, 240, 2, 241, 171, 172, 173, 174, 139, 179, 180, 181, 182, 183, 184, 189, 190, 191, 140, 141, 142, 143, 34, 339, 340, 341, 18, 342, 343, 344, 345, 346, 14, 347, 196, 348, 349, 350, 351, 39, 40, 294, 287, 288, 289, 352, 353, 354, 355, 42, 43, 44, 356, 324, 325, 326, 41, 357, 358, 359, 360, 48, 49, 50, 202, 203, 204, 361, 362, 363, 364, 51, 365, 366, 367, 368, 369, 370, 80, 81, 82, 371, 372, 373, 374, 375, 376, 377, 378, 379, 380, 381, 382, 383, 384, 385, 386, 387, 388, 389, 390, 391, 144, 145, 146, 147, 769, 770, 771, 772, 773, 774, 775, 776, 777, 778, 828, 829, 830, 831, 832, 833, 820, 821, 822, 823, 824, 825, 826, 827] (by decide +kernel) (by decide +kernel)
set_option maxRecDepth 20000 in
theorem gL_law_X5_order : GoodIn wsL_law (wsV RL 78 RX5 yX5_order wsX5_order) := goodIn_app (goodIn_of _ (by decide +kernel)) ggL_law_X5_order
set_option maxRecDepth 20000 in
theorem ggL_law_X6_order : GoodIn wsL_law wsX6_order := goodIn_r _ [488, 133, 134, 104, 216, 217, 218, 5, 219, 152, 153, 154, 155, 156, 224, 225, 226, 403, 404, 405, 406, 407, 166, 408, 231, 96, 97, 95, 98, 396, 397, 398, 409, 410, 411, 412, 413, 414, 415, 416, 417, 101, 102, 103, 418, 419, 420, 421, 422, 423, 424, 425, 426, 427, 99, 100, 428, 429, 430, 431, 432, 433, 434, 435, 436, 779, 780, 781, 782, 783, 784, 785, 786, 787, 788, 789, 790, 791, 792, 793, 794, 795, 796, 797, 798, 799, 800, 801, 802, 803, 804, 805, 806, 807, 808, 809, 810, 811, 812, 813, 814, 815, 816, 817, 818, 819] (by decide +kernel) (by decide +kernel)
set_option maxRecDepth 20000 in
theorem gL_law_X6_order : GoodIn wsL_law (wsV RL 81 RX6 yX6_order wsX6_order) := goodIn_app (goodIn_of _ (by decide +kernel)) ggL_law_X6_order
set_option maxRecDepth 20000 in
theorem ggL_law_X5_edges : GoodIn wsL_law wsX5_edges := goodIn_r _ [492, 34, 23, 182, 183, 2, 184, 171, 172, 173, 174, 139, 189, 190, 191, 493, 494, 495, 22, 496, 57, 58, 62, 63, 64, 65, 59, 60, 61, 66, 67, 68, 769, 770, 771, 772, 773, 774, 775, 776, 777, 778, 834, 835, 836, 837, 838] (by decide +kernel) (by decide +kernel)
set_option maxRecDepth 20000 in
theorem gL_law_X5_edges : GoodIn wsL_law (wsV RL 82 RX5 yX5_edges wsX5_edges) := goodIn_app (goodIn_of _ (by decide +kernel)) ggL_law_X5_edges
set_option maxRecDepth 20000 in
theorem ggL_law_X6_edges : GoodIn wsL_law wsX6_edges := goodIn_r _ [500, 133, 134, 107, 108, 216, 217, 218, 5, 219, 152, 307, 308, 309, 310, 779, 780, 781, 782, 783, 784, 785, 786, 787, 788, 789, 790, 791, 792, 793, 794, 795, 796, 797, 798, 799, 800, 801, 802, 803, 804, 805, 806, 807, 808, 809, 810, 811, 812, 813, 814, 815, 816, 817, 818, 819] (by decide +kernel) (by decide +kernel)
set_option maxRecDepth 20000 in
theorem gL_law_X6_edges : GoodIn wsL_law (wsV RL 86 RX6 yX6_edges wsX6_edges) := goodIn_app (goodIn_of _ (by decide +kernel)) ggL_law_X6_edges
set_option maxRecDepth 20000 in
theorem ggL_law_X5_row : GoodIn wsL_law wsX5_row := goodIn_r _ [504, 23, 33, 505, 506, 507, 508, 2, 509, 510, 511, 512, 513, 139, 514, 515, 516, 22, 517, 518, 519, 377, 520, 521, 522, 523, 524, 60, 61, 525, 526, 527, 528, 529, 530, 531, 59, 532, 533, 534, 535, 536, 537, 538, 539, 540, 541, 542, 140, 141, 142, 143, 34, 543, 544, 545, 546, 547, 548, 549, 550, 551, 552, 553, 554, 555, 556, 557, 558, 144, 145, 146, 147, 769, 770, 771, 772, 773, 774, 775, 776, 777, 778, 834, 835, 836, 837, 838] (by decide +kernel) (by decide +kernel)
set_option maxRecDepth 20000 in
theorem gL_law_X5_row : GoodIn wsL_law (wsV RL 87 RX5 yX5_row wsX5_row) := goodIn_app (goodIn_of _ (by decide +kernel)) ggL_law_X5_row
set_option maxRecDepth 20000 in
theorem ggL_law_X6_row : GoodIn wsL_law wsX6_row := goodIn_r _ [562, 133, 134, 563, 564, 109, 110, 565, 566, 567, 5, 568, 152, 153, 154, 155, 156, 569, 570, 571, 572, 573, 574, 575, 576, 112, 111, 577, 519, 377, 520, 578, 579, 580, 581, 582, 376, 378, 583, 584, 585, 586, 107, 587, 588, 589, 590, 108, 591, 592, 593, 594, 595, 596, 597, 598, 779, 780, 781, 782, 783, 784, 785, 786, 787, 788, 789, 790, 791, 792, 793, 794, 795, 796, 797, 798, 799, 800, 801, 802, 803, 804, 805, 806, 807, 808, 809, 810, 811, 812, 813, 814, 815, 816, 817, 818, 819] (by decide +kernel) (by decide +kernel)
set_option maxRecDepth 20000 in
theorem gL_law_X6_row : GoodIn wsL_law (wsV RL 90 RX6 yX6_row wsX6_row) := goodIn_app (goodIn_of _ (by decide +kernel)) ggL_law_X6_row
set_option maxRecDepth 20000 in
theorem ggL_law_X5_ring : GoodIn wsL_law wsX5_ring := goodIn_r _ [602, 23, 506, 507, 508, 2, 509, 510, 511, 512, 513, 139, 514, 515, 516, 22, 517, 518, 519, 377, 520, 521, 522, 523, 524, 60, 61, 525, 526, 527, 528, 529, 530, 531, 59, 532, 533, 534, 535, 536, 537, 538, 539, 540, 541, 542, 140, 141, 142, 143, 34, 603, 144, 145, 146, 147, 769, 770, 771, 772, 773, 774, 775, 776, 777, 778, 834, 835, 836, 837, 838] (by decide +kernel) (by decide +kernel)
set_option maxRecDepth 20000 in
theorem gL_law_X5_ring : GoodIn wsL_law (wsV RL 91 RX5 yX5_ring wsX5_ring) := goodIn_app (goodIn_of _ (by decide +kernel)) ggL_law_X5_ring
set_option maxRecDepth 20000 in
theorem ggL_law_X6_ring : GoodIn wsL_law wsX6_ring := goodIn_r _ [607, 133, 134, 110, 563, 565, 566, 567, 5, 568, 152, 153, 154, 155, 156, 569, 570, 571, 572, 573, 574, 575, 576, 112, 111, 577, 519, 377, 520, 578, 579, 580, 581, 582, 376, 378, 583, 584, 585, 586, 107, 587, 588, 589, 590, 108, 591, 592, 593, 594, 595, 596, 597, 598, 779, 780, 781, 782, 783, 784, 785, 786, 787, 788, 789, 790, 791, 792, 793, 794, 795, 796, 797, 798, 799, 800, 801, 802, 803, 804, 805, 806, 807, 808, 809, 810, 811, 812, 813, 814, 815, 816, 817, 818, 819] (by decide +kernel) (by decide +kernel)
set_option maxRecDepth 20000 in
theorem gL_law_X6_ring : GoodIn wsL_law (wsV RL 94 RX6 yX6_ring wsX6_ring) := goodIn_app (goodIn_of _ (by decide +kernel)) ggL_law_X6_ring
set_option maxRecDepth 20000 in
theorem ggL_law_X5_rows : GoodIn wsL_law wsX5_rows := goodIn_r _ [611, 23, 510, 511, 512, 2, 513, 139, 140, 141, 142, 143, 34, 514, 515, 516, 22, 517, 518, 519, 377, 520, 521, 522, 523, 524, 60, 61, 525, 526, 527, 528, 529, 530, 531, 59, 532, 533, 534, 535, 536, 537, 538, 539, 540, 541, 542, 144, 145, 146, 147, 769, 770, 771, 772, 773, 774, 775, 776, 777, 778, 834, 835, 836, 837, 838] (by decide +kernel) (by decide +kernel)
set_option maxRecDepth 20000 in
theorem gL_law_X5_rows : GoodIn wsL_law (wsV RL 95 RX5 yX5_rows wsX5_rows) := goodIn_app (goodIn_of _ (by decide +kernel)) ggL_law_X5_rows
set_option maxRecDepth 20000 in
theorem ggL_law_X6_rows : GoodIn wsL_law wsX6_rows := goodIn_r _ [615, 133, 134, 152, 112, 111, 577, 519, 377, 520, 565, 566, 567, 5, 568, 153, 154, 155, 156, 578, 579, 580, 581, 582, 376, 378, 583, 584, 585, 586, 107, 587, 588, 589, 590, 108, 591, 592, 593, 594, 616, 617, 618, 619, 779, 780, 781, 782, 783, 784, 785, 786, 787, 788, 789, 790, 791, 792, 793, 794, 795, 796, 797, 798, 799, 800, 801, 802, 803, 804, 805, 806, 807, 808, 809, 810, 811, 812, 813, 814, 815, 816, 817, 818, 819] (by decide +kernel) (by decide +kernel)
set_option maxRecDepth 20000 in
theorem gL_law_X6_rows : GoodIn wsL_law (wsV RL 98 RX6 yX6_rows wsX6_rows) := goodIn_app (goodIn_of _ (by decide +kernel)) ggL_law_X6_rows
set_option maxRecDepth 20000 in
theorem ggL_law_X5_out : GoodIn wsL_law wsX5_out := goodIn_r _ [623, 505, 33, 769, 770, 771, 772, 773, 774, 775, 776, 777, 778] (by decide +kernel) (by decide +kernel)
set_option maxRecDepth 20000 in
theorem gL_law_X5_out : GoodIn wsL_law (wsV RL 99 RX5 yX5_out wsX5_out) := goodIn_app (goodIn_of _ (by decide +kernel)) ggL_law_X5_out
set_option maxRecDepth 20000 in
theorem ggL_law_X6_out : GoodIn wsL_law wsX6_out := goodIn_r _ [627, 133, 564, 109, 779, 780, 781, 782, 783, 784, 785, 786, 787, 788, 789, 790, 791, 792, 793, 794, 795, 796, 797, 798, 799, 800, 801, 802, 803, 804, 805, 806, 807, 808, 809, 810, 811, 812, 813, 814, 815, 816, 817, 818, 819] (by decide +kernel) (by decide +kernel)
set_option maxRecDepth 20000 in
theorem gL_law_X6_out : GoodIn wsL_law (wsV RL 102 RX6 yX6_out wsX6_out) := goodIn_app (goodIn_of _ (by decide +kernel)) ggL_law_X6_out
set_option maxRecDepth 20000 in
theorem ggL_law_X5_want : GoodIn wsL_law wsX5_want := goodIn_r _ [631, 34, 27, 182, 183, 2, 184, 171, 172, 173, 174, 139, 189, 190, 191, 632, 633, 634, 26, 635, 73, 74, 75, 769, 770, 771, 772, 773, 774, 775, 776, 777, 778, 839, 840, 841, 842, 843, 844] (by decide +kernel) (by decide +kernel)
set_option maxRecDepth 20000 in
theorem gL_law_X5_want : GoodIn wsL_law (wsV RL 103 RX5 yX5_want wsX5_want) := goodIn_app (goodIn_of _ (by decide +kernel)) ggL_law_X5_want
set_option maxRecDepth 20000 in
theorem ggL_law_X6_want : GoodIn wsL_law wsX6_want := goodIn_r _ [639, 133, 134, 113, 114, 115, 216, 217, 218, 5, 219, 152, 307, 308, 309, 310, 779, 780, 781, 782, 783, 784, 785, 786, 787, 788, 789, 790, 791, 792, 793, 794, 795, 796, 797, 798, 799, 800, 801, 802, 803, 804, 805, 806, 807, 808, 809, 810, 811, 812, 813, 814, 815, 816, 817, 818, 819] (by decide +kernel) (by decide +kernel)
set_option maxRecDepth 20000 in
theorem gL_law_X6_want : GoodIn wsL_law (wsV RL 107 RX6 yX6_want wsX6_want) := goodIn_app (goodIn_of _ (by decide +kernel)) ggL_law_X6_want
set_option maxRecDepth 20000 in
theorem ggL_law_X5_best : GoodIn wsL_law wsX5_best := goodIn_r _ [643, 27, 139, 644, 645, 646, 26, 647, 648, 376, 377, 378, 78, 649, 76, 74, 75, 650, 651, 470, 471, 652, 653, 654, 655, 656, 657, 81, 658, 659, 660, 661, 662, 663, 664, 665, 666, 73, 667, 668, 669, 670, 671, 672, 673, 144, 145, 146, 2, 147, 34, 769, 770, 771, 772, 773, 774, 775, 776, 777, 778, 839, 840, 841, 842, 843, 844] (by decide +kernel) (by decide +kernel)
set_option maxRecDepth 20000 in
theorem gL_law_X5_best : GoodIn wsL_law (wsV RL 108 RX5 yX5_best wsX5_best) := goodIn_app (goodIn_of _ (by decide +kernel)) ggL_law_X5_best
set_option maxRecDepth 20000 in
theorem ggL_law_X6_best : GoodIn wsL_law wsX6_best := goodIn_r _ [677, 133, 134, 678, 679, 680, 5, 681, 152, 117, 682, 683, 684, 685, 115, 116, 686, 687, 688, 689, 118, 119, 114, 113, 577, 519, 377, 520, 779, 780, 781, 782, 783, 784, 785, 786, 787, 788, 789, 790, 791, 792, 793, 794, 795, 796, 797, 798, 799, 800, 801, 802, 803, 804, 805, 806, 807, 808, 809, 810, 811, 812, 813, 814, 815, 816, 817, 818, 819] (by decide +kernel) (by decide +kernel)
set_option maxRecDepth 20000 in
theorem gL_law_X6_best : GoodIn wsL_law (wsV RL 111 RX6 yX6_best wsX6_best) := goodIn_app (goodIn_of _ (by decide +kernel)) ggL_law_X6_best
set_option maxRecDepth 20000 in
theorem ggL_law_X5_hour : GoodIn wsL_law wsX5_hour := goodIn_r _ [693, 27, 139, 171, 172, 173, 2, 174, 140, 141, 142, 143, 34, 644, 645, 646, 26, 647, 648, 376, 377, 378, 78, 649, 76, 74, 75, 650, 651, 470, 471, 652, 653, 654, 655, 656, 657, 81, 658, 659, 660, 661, 662, 663, 664, 665, 666, 73, 667, 668, 669, 694, 695, 696, 697, 698, 699, 700, 701, 702, 144, 145, 146, 147, 769, 770, 771, 772, 773, 774, 775, 776, 777, 778, 839, 840, 841, 842, 843, 844] (by decide +kernel) (by decide +kernel)
set_option maxRecDepth 20000 in
theorem gL_law_X5_hour : GoodIn wsL_law (wsV RL 112 RX5 yX5_hour wsX5_hour) := goodIn_app (goodIn_of _ (by decide +kernel)) ggL_law_X5_hour
set_option maxRecDepth 20000 in
theorem ggL_law_X6_hour : GoodIn wsL_law wsX6_hour := goodIn_r _ [706, 133, 134, 117, 116, 114, 216, 217, 218, 5, 219, 152, 153, 154, 155, 156, 678, 679, 680, 681, 682, 683, 684, 685, 115, 686, 687, 688, 689, 118, 119, 113, 577, 519, 377, 520, 779, 780, 781, 782, 783, 784, 785, 786, 787, 788, 789, 790, 791, 792, 793, 794, 795, 796, 797, 798, 799, 800, 801, 802, 803, 804, 805, 806, 807, 808, 809, 810, 811, 812, 813, 814, 815, 816, 817, 818, 819] (by decide +kernel) (by decide +kernel)
set_option maxRecDepth 20000 in
theorem gL_law_X6_hour : GoodIn wsL_law (wsV RL 115 RX6 yX6_hour wsX6_hour) := goodIn_app (goodIn_of _ (by decide +kernel)) ggL_law_X6_hour
set_option maxRecDepth 20000 in
theorem ggL_law_X5_law : GoodIn wsL_law wsX5_law := goodIn_r _ [710, 237, 711, 31, 34, 182, 183, 2, 184, 189, 190, 191, 712, 713, 714, 30, 715, 716, 717, 718, 719, 720, 86, 87, 721, 769, 770, 771, 772, 773, 774, 775, 776, 777, 778, 845, 846, 847, 848, 849, 850, 851] (by decide +kernel) (by decide +kernel)
set_option maxRecDepth 20000 in
theorem gL_law_X5_law : GoodIn wsL_law (wsV RL 116 RX5 yX5_law wsX5_law) := goodIn_app (goodIn_of _ (by decide +kernel)) ggL_law_X5_law
set_option maxRecDepth 20000 in
theorem ggL_law_X6_law : GoodIn wsL_law wsX6_law := goodIn_r _ [725, 133, 134, 247, 726, 727, 120, 121, 307, 308, 309, 5, 310, 779, 780, 781, 782, 783, 784, 785, 786, 787, 788, 789, 790, 791, 792, 793, 794, 795, 796, 797, 798, 799, 800, 801, 802, 803, 804, 805, 806, 807, 808, 809, 810, 811, 812, 813, 814, 815, 816, 817, 818, 819] (by decide +kernel) (by decide +kernel)
set_option maxRecDepth 20000 in
theorem gL_law_X6_law : GoodIn wsL_law (wsV RL 119 RX6 yX6_law wsX6_law) := goodIn_app (goodIn_of _ (by decide +kernel)) ggL_law_X6_law
set_option maxRecDepth 20000 in
theorem ggL_law_X5_death : GoodIn wsL_law wsX5_death := goodIn_r _ [731, 237, 31, 34, 171, 172, 173, 2, 174, 139, 182, 183, 184, 179, 180, 181, 189, 190, 191, 732, 733, 734, 30, 735, 736, 737, 738, 739, 740, 88, 89, 90, 741, 769, 770, 771, 772, 773, 774, 775, 776, 777, 778, 845, 846, 847, 848, 849, 850, 851] (by decide +kernel) (by decide +kernel)
set_option maxRecDepth 20000 in
theorem gL_law_X5_death : GoodIn wsL_law (wsV RL 120 RX5 yX5_death wsX5_death) := goodIn_app (goodIn_of _ (by decide +kernel)) ggL_law_X5_death
set_option maxRecDepth 20000 in
theorem ggL_law_X6_death : GoodIn wsL_law wsX6_death := goodIn_r _ [745, 133, 134, 247, 746, 122, 123, 124, 216, 217, 218, 5, 219, 152, 307, 308, 309, 310, 224, 225, 226, 779, 780, 781, 782, 783, 784, 785, 786, 787, 788, 789, 790, 791, 792, 793, 794, 795, 796, 797, 798, 799, 800, 801, 802, 803, 804, 805, 806, 807, 808, 809, 810, 811, 812, 813, 814, 815, 816, 817, 818, 819] (by decide +kernel) (by decide +kernel)
set_option maxRecDepth 20000 in
theorem gL_law_X6_death : GoodIn wsL_law (wsV RL 123 RX6 yX6_death wsX6_death) := goodIn_app (goodIn_of _ (by decide +kernel)) ggL_law_X6_death
set_option maxRecDepth 20000 in
theorem ggL_law_X5_free : GoodIn wsL_law wsX5_free := goodIn_r _ [750, 751, 31, 171, 172, 173, 2, 174, 139, 182, 183, 184, 179, 180, 181, 189, 190, 191, 140, 141, 142, 143, 34, 752, 753, 754, 30, 755, 89, 87, 756, 757, 758, 759, 716, 86, 760, 761, 762, 763, 736, 88, 90, 144, 145, 146, 147, 769, 770, 771, 772, 773, 774, 775, 776, 777, 778, 845, 846, 847, 848, 849, 850, 851] (by decide +kernel) (by decide +kernel)
set_option maxRecDepth 20000 in
theorem gL_law_X5_free : GoodIn wsL_law (wsV RL 124 RX5 yX5_free wsX5_free) := goodIn_app (goodIn_of _ (by decide +kernel)) ggL_law_X5_free
set_option maxRecDepth 20000 in
theorem ggL_law_X6_free : GoodIn wsL_law wsX6_free := goodIn_r _ [767, 133, 134, 768, 727, 120, 746, 122, 124, 123, 121, 216, 217, 218, 5, 219, 152, 153, 154, 155, 156, 224, 225, 226, 779, 780, 781, 782, 783, 784, 785, 786, 787, 788, 789, 790, 791, 792, 793, 794, 795, 796, 797, 798, 799, 800, 801, 802, 803, 804, 805, 806, 807, 808, 809, 810, 811, 812, 813, 814, 815, 816, 817, 818, 819] (by decide +kernel) (by decide +kernel)
set_option maxRecDepth 20000 in
theorem gL_law_X6_free : GoodIn wsL_law (wsV RL 127 RX6 yX6_free wsX6_free) := goodIn_app (goodIn_of _ (by decide +kernel)) ggL_law_X6_free
theorem dL_law_0 : decode cL_law 0 = .ok (.new 7, 3) := by decide +kernel
theorem dL_law_3 : decode cL_law 3 = .ok (.dup, 1) := by decide +kernel
theorem dL_law_4 : decode cL_law 4 = .ok (.invokespecial 9, 3) := by decide +kernel
theorem dL_law_7 : decode cL_law 7 = .ok (.astore_n 1, 1) := by decide +kernel
theorem dL_law_8 : decode cL_law 8 = .ok (.new 10, 3) := by decide +kernel
theorem dL_law_11 : decode cL_law 11 = .ok (.dup, 1) := by decide +kernel
theorem dL_law_12 : decode cL_law 12 = .ok (.invokespecial 12, 3) := by decide +kernel
theorem dL_law_15 : decode cL_law 15 = .ok (.astore_n 2, 1) := by decide +kernel
theorem dL_law_16 : decode cL_law 16 = .ok (.iconst 0, 1) := by decide +kernel
theorem dL_law_17 : decode cL_law 17 = .ok (.istore_n 3, 1) := by decide +kernel
theorem dL_law_18 : decode cL_law 18 = .ok (.iload_n 3, 1) := by decide +kernel
theorem dL_law_19 : decode cL_law 19 = .ok (.aload_n 0, 1) := by decide +kernel
theorem dL_law_20 : decode cL_law 20 = .ok (.arraylength, 1) := by decide +kernel
theorem dL_law_21 : decode cL_law 21 = .ok (.bipush 6, 2) := by decide +kernel
theorem dL_law_23 : decode cL_law 23 = .ok (.isub, 1) := by decide +kernel
theorem dL_law_24 : decode cL_law 24 = .ok (.if_icmp .gt 1096, 3) := by decide +kernel
theorem dL_law_27 : decode cL_law 27 = .ok (.aload_n 0, 1) := by decide +kernel
theorem dL_law_28 : decode cL_law 28 = .ok (.iload_n 3, 1) := by decide +kernel
theorem dL_law_29 : decode cL_law 29 = .ok (.iaload, 1) := by decide +kernel
theorem dL_law_30 : decode cL_law 30 = .ok (.bipush 31, 2) := by decide +kernel
theorem dL_law_32 : decode cL_law 32 = .ok (.iand, 1) := by decide +kernel
theorem dL_law_33 : decode cL_law 33 = .ok (.tableswitch 1081 0 25 #[119, 132, 145, 158, 201, 254, 297, 350, 429, 462, 495, 554, 639, 662, 695, 738, 781, 804, 827, 850, 873, 926, 939, 962, 995, 1038], 119) := by decide +kernel
theorem dL_law_152 : decode cL_law 152 = .ok (.aload_n 1, 1) := by decide +kernel
theorem dL_law_153 : decode cL_law 153 = .ok (.invokevirtual 13, 3) := by decide +kernel
theorem dL_law_156 : decode cL_law 156 = .ok (.aload_n 2, 1) := by decide +kernel
theorem dL_law_157 : decode cL_law 157 = .ok (.invokevirtual 17, 3) := by decide +kernel
theorem dL_law_160 : decode cL_law 160 = .ok (.if_icmp .eq 954, 3) := by decide +kernel
theorem dL_law_163 : decode cL_law 163 = .ok (.iconst 0, 1) := by decide +kernel
theorem dL_law_164 : decode cL_law 164 = .ok (.ireturn, 1) := by decide +kernel
theorem dL_law_165 : decode cL_law 165 = .ok (.aload_n 1, 1) := by decide +kernel
theorem dL_law_166 : decode cL_law 166 = .ok (.invokevirtual 18, 3) := by decide +kernel
theorem dL_law_169 : decode cL_law 169 = .ok (.aload_n 2, 1) := by decide +kernel
theorem dL_law_170 : decode cL_law 170 = .ok (.invokevirtual 21, 3) := by decide +kernel
theorem dL_law_173 : decode cL_law 173 = .ok (.if_icmp .eq 941, 3) := by decide +kernel
theorem dL_law_176 : decode cL_law 176 = .ok (.iconst 0, 1) := by decide +kernel
theorem dL_law_177 : decode cL_law 177 = .ok (.ireturn, 1) := by decide +kernel
theorem dL_law_178 : decode cL_law 178 = .ok (.aload_n 1, 1) := by decide +kernel
theorem dL_law_179 : decode cL_law 179 = .ok (.invokevirtual 22, 3) := by decide +kernel
theorem dL_law_182 : decode cL_law 182 = .ok (.aload_n 2, 1) := by decide +kernel
theorem dL_law_183 : decode cL_law 183 = .ok (.invokevirtual 25, 3) := by decide +kernel
theorem dL_law_186 : decode cL_law 186 = .ok (.if_icmp .eq 928, 3) := by decide +kernel
theorem dL_law_189 : decode cL_law 189 = .ok (.iconst 0, 1) := by decide +kernel
theorem dL_law_190 : decode cL_law 190 = .ok (.ireturn, 1) := by decide +kernel
theorem dL_law_191 : decode cL_law 191 = .ok (.aload_n 1, 1) := by decide +kernel
theorem dL_law_192 : decode cL_law 192 = .ok (.aload_n 0, 1) := by decide +kernel
theorem dL_law_193 : decode cL_law 193 = .ok (.iload_n 3, 1) := by decide +kernel
theorem dL_law_194 : decode cL_law 194 = .ok (.iconst 1, 1) := by decide +kernel
theorem dL_law_195 : decode cL_law 195 = .ok (.iadd, 1) := by decide +kernel
theorem dL_law_196 : decode cL_law 196 = .ok (.iaload, 1) := by decide +kernel
theorem dL_law_197 : decode cL_law 197 = .ok (.aload_n 0, 1) := by decide +kernel
theorem dL_law_198 : decode cL_law 198 = .ok (.iload_n 3, 1) := by decide +kernel
theorem dL_law_199 : decode cL_law 199 = .ok (.iconst 2, 1) := by decide +kernel
theorem dL_law_200 : decode cL_law 200 = .ok (.iadd, 1) := by decide +kernel
theorem dL_law_201 : decode cL_law 201 = .ok (.iaload, 1) := by decide +kernel
theorem dL_law_202 : decode cL_law 202 = .ok (.aload_n 0, 1) := by decide +kernel
theorem dL_law_203 : decode cL_law 203 = .ok (.iload_n 3, 1) := by decide +kernel
theorem dL_law_204 : decode cL_law 204 = .ok (.iconst 3, 1) := by decide +kernel
theorem dL_law_205 : decode cL_law 205 = .ok (.iadd, 1) := by decide +kernel
theorem dL_law_206 : decode cL_law 206 = .ok (.iaload, 1) := by decide +kernel
theorem dL_law_207 : decode cL_law 207 = .ok (.invokevirtual 26, 3) := by decide +kernel
theorem dL_law_210 : decode cL_law 210 = .ok (.aload_n 2, 1) := by decide +kernel
theorem dL_law_211 : decode cL_law 211 = .ok (.aload_n 0, 1) := by decide +kernel
theorem dL_law_212 : decode cL_law 212 = .ok (.iload_n 3, 1) := by decide +kernel
theorem dL_law_213 : decode cL_law 213 = .ok (.iconst 1, 1) := by decide +kernel
theorem dL_law_214 : decode cL_law 214 = .ok (.iadd, 1) := by decide +kernel
theorem dL_law_215 : decode cL_law 215 = .ok (.iaload, 1) := by decide +kernel
theorem dL_law_216 : decode cL_law 216 = .ok (.aload_n 0, 1) := by decide +kernel
theorem dL_law_217 : decode cL_law 217 = .ok (.iload_n 3, 1) := by decide +kernel
theorem dL_law_218 : decode cL_law 218 = .ok (.iconst 2, 1) := by decide +kernel
theorem dL_law_219 : decode cL_law 219 = .ok (.iadd, 1) := by decide +kernel
theorem dL_law_220 : decode cL_law 220 = .ok (.iaload, 1) := by decide +kernel
theorem dL_law_221 : decode cL_law 221 = .ok (.aload_n 0, 1) := by decide +kernel
theorem dL_law_222 : decode cL_law 222 = .ok (.iload_n 3, 1) := by decide +kernel
theorem dL_law_223 : decode cL_law 223 = .ok (.iconst 3, 1) := by decide +kernel
theorem dL_law_224 : decode cL_law 224 = .ok (.iadd, 1) := by decide +kernel
theorem dL_law_225 : decode cL_law 225 = .ok (.iaload, 1) := by decide +kernel
theorem dL_law_226 : decode cL_law 226 = .ok (.invokevirtual 30, 3) := by decide +kernel
theorem dL_law_229 : decode cL_law 229 = .ok (.if_icmp .eq 885, 3) := by decide +kernel
theorem dL_law_232 : decode cL_law 232 = .ok (.iconst 0, 1) := by decide +kernel
theorem dL_law_233 : decode cL_law 233 = .ok (.ireturn, 1) := by decide +kernel
theorem dL_law_234 : decode cL_law 234 = .ok (.aload_n 1, 1) := by decide +kernel
theorem dL_law_235 : decode cL_law 235 = .ok (.aload_n 0, 1) := by decide +kernel
theorem dL_law_236 : decode cL_law 236 = .ok (.iload_n 3, 1) := by decide +kernel
theorem dL_law_237 : decode cL_law 237 = .ok (.iconst 1, 1) := by decide +kernel
theorem dL_law_238 : decode cL_law 238 = .ok (.iadd, 1) := by decide +kernel
theorem dL_law_239 : decode cL_law 239 = .ok (.iaload, 1) := by decide +kernel
theorem dL_law_240 : decode cL_law 240 = .ok (.aload_n 0, 1) := by decide +kernel
theorem dL_law_241 : decode cL_law 241 = .ok (.iload_n 3, 1) := by decide +kernel
theorem dL_law_242 : decode cL_law 242 = .ok (.iconst 2, 1) := by decide +kernel
theorem dL_law_243 : decode cL_law 243 = .ok (.iadd, 1) := by decide +kernel
theorem dL_law_244 : decode cL_law 244 = .ok (.iaload, 1) := by decide +kernel
theorem dL_law_245 : decode cL_law 245 = .ok (.aload_n 0, 1) := by decide +kernel
theorem dL_law_246 : decode cL_law 246 = .ok (.iload_n 3, 1) := by decide +kernel
theorem dL_law_247 : decode cL_law 247 = .ok (.iconst 3, 1) := by decide +kernel
theorem dL_law_248 : decode cL_law 248 = .ok (.iadd, 1) := by decide +kernel
theorem dL_law_249 : decode cL_law 249 = .ok (.iaload, 1) := by decide +kernel
theorem dL_law_250 : decode cL_law 250 = .ok (.aload_n 0, 1) := by decide +kernel
theorem dL_law_251 : decode cL_law 251 = .ok (.iload_n 3, 1) := by decide +kernel
theorem dL_law_252 : decode cL_law 252 = .ok (.iconst 4, 1) := by decide +kernel
theorem dL_law_253 : decode cL_law 253 = .ok (.iadd, 1) := by decide +kernel
theorem dL_law_254 : decode cL_law 254 = .ok (.iaload, 1) := by decide +kernel
theorem dL_law_255 : decode cL_law 255 = .ok (.invokevirtual 31, 3) := by decide +kernel
theorem dL_law_258 : decode cL_law 258 = .ok (.aload_n 2, 1) := by decide +kernel
theorem dL_law_259 : decode cL_law 259 = .ok (.aload_n 0, 1) := by decide +kernel
theorem dL_law_260 : decode cL_law 260 = .ok (.iload_n 3, 1) := by decide +kernel
theorem dL_law_261 : decode cL_law 261 = .ok (.iconst 1, 1) := by decide +kernel
theorem dL_law_262 : decode cL_law 262 = .ok (.iadd, 1) := by decide +kernel
theorem dL_law_263 : decode cL_law 263 = .ok (.iaload, 1) := by decide +kernel
theorem dL_law_264 : decode cL_law 264 = .ok (.aload_n 0, 1) := by decide +kernel
theorem dL_law_265 : decode cL_law 265 = .ok (.iload_n 3, 1) := by decide +kernel
theorem dL_law_266 : decode cL_law 266 = .ok (.iconst 2, 1) := by decide +kernel
theorem dL_law_267 : decode cL_law 267 = .ok (.iadd, 1) := by decide +kernel
theorem dL_law_268 : decode cL_law 268 = .ok (.iaload, 1) := by decide +kernel
theorem dL_law_269 : decode cL_law 269 = .ok (.aload_n 0, 1) := by decide +kernel
theorem dL_law_270 : decode cL_law 270 = .ok (.iload_n 3, 1) := by decide +kernel
theorem dL_law_271 : decode cL_law 271 = .ok (.iconst 3, 1) := by decide +kernel
theorem dL_law_272 : decode cL_law 272 = .ok (.iadd, 1) := by decide +kernel
theorem dL_law_273 : decode cL_law 273 = .ok (.iaload, 1) := by decide +kernel
theorem dL_law_274 : decode cL_law 274 = .ok (.aload_n 0, 1) := by decide +kernel
theorem dL_law_275 : decode cL_law 275 = .ok (.iload_n 3, 1) := by decide +kernel
theorem dL_law_276 : decode cL_law 276 = .ok (.iconst 4, 1) := by decide +kernel
theorem dL_law_277 : decode cL_law 277 = .ok (.iadd, 1) := by decide +kernel
theorem dL_law_278 : decode cL_law 278 = .ok (.iaload, 1) := by decide +kernel
theorem dL_law_279 : decode cL_law 279 = .ok (.invokevirtual 35, 3) := by decide +kernel
theorem dL_law_282 : decode cL_law 282 = .ok (.if_icmp .eq 832, 3) := by decide +kernel
theorem dL_law_285 : decode cL_law 285 = .ok (.iconst 0, 1) := by decide +kernel
theorem dL_law_286 : decode cL_law 286 = .ok (.ireturn, 1) := by decide +kernel
theorem dL_law_287 : decode cL_law 287 = .ok (.aload_n 1, 1) := by decide +kernel
theorem dL_law_288 : decode cL_law 288 = .ok (.aload_n 0, 1) := by decide +kernel
theorem dL_law_289 : decode cL_law 289 = .ok (.iload_n 3, 1) := by decide +kernel
theorem dL_law_290 : decode cL_law 290 = .ok (.iconst 1, 1) := by decide +kernel
theorem dL_law_291 : decode cL_law 291 = .ok (.iadd, 1) := by decide +kernel
theorem dL_law_292 : decode cL_law 292 = .ok (.iaload, 1) := by decide +kernel
theorem dL_law_293 : decode cL_law 293 = .ok (.aload_n 0, 1) := by decide +kernel
theorem dL_law_294 : decode cL_law 294 = .ok (.iload_n 3, 1) := by decide +kernel
theorem dL_law_295 : decode cL_law 295 = .ok (.iconst 2, 1) := by decide +kernel
theorem dL_law_296 : decode cL_law 296 = .ok (.iadd, 1) := by decide +kernel
theorem dL_law_297 : decode cL_law 297 = .ok (.iaload, 1) := by decide +kernel
theorem dL_law_298 : decode cL_law 298 = .ok (.aload_n 0, 1) := by decide +kernel
theorem dL_law_299 : decode cL_law 299 = .ok (.iload_n 3, 1) := by decide +kernel
theorem dL_law_300 : decode cL_law 300 = .ok (.iconst 3, 1) := by decide +kernel
theorem dL_law_301 : decode cL_law 301 = .ok (.iadd, 1) := by decide +kernel
theorem dL_law_302 : decode cL_law 302 = .ok (.iaload, 1) := by decide +kernel
theorem dL_law_303 : decode cL_law 303 = .ok (.invokevirtual 36, 3) := by decide +kernel
theorem dL_law_306 : decode cL_law 306 = .ok (.aload_n 2, 1) := by decide +kernel
theorem dL_law_307 : decode cL_law 307 = .ok (.aload_n 0, 1) := by decide +kernel
theorem dL_law_308 : decode cL_law 308 = .ok (.iload_n 3, 1) := by decide +kernel
theorem dL_law_309 : decode cL_law 309 = .ok (.iconst 1, 1) := by decide +kernel
theorem dL_law_310 : decode cL_law 310 = .ok (.iadd, 1) := by decide +kernel
theorem dL_law_311 : decode cL_law 311 = .ok (.iaload, 1) := by decide +kernel
theorem dL_law_312 : decode cL_law 312 = .ok (.aload_n 0, 1) := by decide +kernel
theorem dL_law_313 : decode cL_law 313 = .ok (.iload_n 3, 1) := by decide +kernel
theorem dL_law_314 : decode cL_law 314 = .ok (.iconst 2, 1) := by decide +kernel
theorem dL_law_315 : decode cL_law 315 = .ok (.iadd, 1) := by decide +kernel
theorem dL_law_316 : decode cL_law 316 = .ok (.iaload, 1) := by decide +kernel
theorem dL_law_317 : decode cL_law 317 = .ok (.aload_n 0, 1) := by decide +kernel
theorem dL_law_318 : decode cL_law 318 = .ok (.iload_n 3, 1) := by decide +kernel
theorem dL_law_319 : decode cL_law 319 = .ok (.iconst 3, 1) := by decide +kernel
theorem dL_law_320 : decode cL_law 320 = .ok (.iadd, 1) := by decide +kernel
theorem dL_law_321 : decode cL_law 321 = .ok (.iaload, 1) := by decide +kernel
theorem dL_law_322 : decode cL_law 322 = .ok (.invokevirtual 39, 3) := by decide +kernel
theorem dL_law_325 : decode cL_law 325 = .ok (.if_icmp .eq 789, 3) := by decide +kernel
theorem dL_law_328 : decode cL_law 328 = .ok (.iconst 0, 1) := by decide +kernel
theorem dL_law_329 : decode cL_law 329 = .ok (.ireturn, 1) := by decide +kernel
theorem dL_law_330 : decode cL_law 330 = .ok (.aload_n 1, 1) := by decide +kernel
theorem dL_law_331 : decode cL_law 331 = .ok (.aload_n 0, 1) := by decide +kernel
theorem dL_law_332 : decode cL_law 332 = .ok (.iload_n 3, 1) := by decide +kernel
theorem dL_law_333 : decode cL_law 333 = .ok (.iconst 1, 1) := by decide +kernel
theorem dL_law_334 : decode cL_law 334 = .ok (.iadd, 1) := by decide +kernel
theorem dL_law_335 : decode cL_law 335 = .ok (.iaload, 1) := by decide +kernel
theorem dL_law_336 : decode cL_law 336 = .ok (.aload_n 0, 1) := by decide +kernel
theorem dL_law_337 : decode cL_law 337 = .ok (.iload_n 3, 1) := by decide +kernel
theorem dL_law_338 : decode cL_law 338 = .ok (.iconst 2, 1) := by decide +kernel
theorem dL_law_339 : decode cL_law 339 = .ok (.iadd, 1) := by decide +kernel
theorem dL_law_340 : decode cL_law 340 = .ok (.iaload, 1) := by decide +kernel
theorem dL_law_341 : decode cL_law 341 = .ok (.aload_n 0, 1) := by decide +kernel
theorem dL_law_342 : decode cL_law 342 = .ok (.iload_n 3, 1) := by decide +kernel
theorem dL_law_343 : decode cL_law 343 = .ok (.iconst 3, 1) := by decide +kernel
theorem dL_law_344 : decode cL_law 344 = .ok (.iadd, 1) := by decide +kernel
theorem dL_law_345 : decode cL_law 345 = .ok (.iaload, 1) := by decide +kernel
theorem dL_law_346 : decode cL_law 346 = .ok (.aload_n 0, 1) := by decide +kernel
theorem dL_law_347 : decode cL_law 347 = .ok (.iload_n 3, 1) := by decide +kernel
theorem dL_law_348 : decode cL_law 348 = .ok (.iconst 4, 1) := by decide +kernel
theorem dL_law_349 : decode cL_law 349 = .ok (.iadd, 1) := by decide +kernel
theorem dL_law_350 : decode cL_law 350 = .ok (.iaload, 1) := by decide +kernel
theorem dL_law_351 : decode cL_law 351 = .ok (.invokevirtual 40, 3) := by decide +kernel
theorem dL_law_354 : decode cL_law 354 = .ok (.aload_n 2, 1) := by decide +kernel
theorem dL_law_355 : decode cL_law 355 = .ok (.aload_n 0, 1) := by decide +kernel
theorem dL_law_356 : decode cL_law 356 = .ok (.iload_n 3, 1) := by decide +kernel
theorem dL_law_357 : decode cL_law 357 = .ok (.iconst 1, 1) := by decide +kernel
theorem dL_law_358 : decode cL_law 358 = .ok (.iadd, 1) := by decide +kernel
theorem dL_law_359 : decode cL_law 359 = .ok (.iaload, 1) := by decide +kernel
theorem dL_law_360 : decode cL_law 360 = .ok (.aload_n 0, 1) := by decide +kernel
theorem dL_law_361 : decode cL_law 361 = .ok (.iload_n 3, 1) := by decide +kernel
theorem dL_law_362 : decode cL_law 362 = .ok (.iconst 2, 1) := by decide +kernel
theorem dL_law_363 : decode cL_law 363 = .ok (.iadd, 1) := by decide +kernel
theorem dL_law_364 : decode cL_law 364 = .ok (.iaload, 1) := by decide +kernel
theorem dL_law_365 : decode cL_law 365 = .ok (.aload_n 0, 1) := by decide +kernel
theorem dL_law_366 : decode cL_law 366 = .ok (.iload_n 3, 1) := by decide +kernel
theorem dL_law_367 : decode cL_law 367 = .ok (.iconst 3, 1) := by decide +kernel
theorem dL_law_368 : decode cL_law 368 = .ok (.iadd, 1) := by decide +kernel
theorem dL_law_369 : decode cL_law 369 = .ok (.iaload, 1) := by decide +kernel
theorem dL_law_370 : decode cL_law 370 = .ok (.aload_n 0, 1) := by decide +kernel
theorem dL_law_371 : decode cL_law 371 = .ok (.iload_n 3, 1) := by decide +kernel
theorem dL_law_372 : decode cL_law 372 = .ok (.iconst 4, 1) := by decide +kernel
theorem dL_law_373 : decode cL_law 373 = .ok (.iadd, 1) := by decide +kernel
theorem dL_law_374 : decode cL_law 374 = .ok (.iaload, 1) := by decide +kernel
theorem dL_law_375 : decode cL_law 375 = .ok (.invokevirtual 43, 3) := by decide +kernel
theorem dL_law_378 : decode cL_law 378 = .ok (.if_icmp .eq 736, 3) := by decide +kernel
theorem dL_law_381 : decode cL_law 381 = .ok (.iconst 0, 1) := by decide +kernel
theorem dL_law_382 : decode cL_law 382 = .ok (.ireturn, 1) := by decide +kernel
theorem dL_law_383 : decode cL_law 383 = .ok (.aload_n 1, 1) := by decide +kernel
theorem dL_law_384 : decode cL_law 384 = .ok (.aload_n 0, 1) := by decide +kernel
theorem dL_law_385 : decode cL_law 385 = .ok (.iload_n 3, 1) := by decide +kernel
theorem dL_law_386 : decode cL_law 386 = .ok (.iconst 1, 1) := by decide +kernel
theorem dL_law_387 : decode cL_law 387 = .ok (.iadd, 1) := by decide +kernel
theorem dL_law_388 : decode cL_law 388 = .ok (.iaload, 1) := by decide +kernel
theorem dL_law_389 : decode cL_law 389 = .ok (.aload_n 0, 1) := by decide +kernel
theorem dL_law_390 : decode cL_law 390 = .ok (.iload_n 3, 1) := by decide +kernel
theorem dL_law_391 : decode cL_law 391 = .ok (.iconst 2, 1) := by decide +kernel
theorem dL_law_392 : decode cL_law 392 = .ok (.iadd, 1) := by decide +kernel
theorem dL_law_393 : decode cL_law 393 = .ok (.iaload, 1) := by decide +kernel
theorem dL_law_394 : decode cL_law 394 = .ok (.ifCond .eq 7, 3) := by decide +kernel
theorem dL_law_397 : decode cL_law 397 = .ok (.iconst 1, 1) := by decide +kernel
theorem dL_law_398 : decode cL_law 398 = .ok (.goto 4, 3) := by decide +kernel
theorem dL_law_401 : decode cL_law 401 = .ok (.iconst 0, 1) := by decide +kernel
theorem dL_law_402 : decode cL_law 402 = .ok (.aload_n 0, 1) := by decide +kernel
theorem dL_law_403 : decode cL_law 403 = .ok (.iload_n 3, 1) := by decide +kernel
theorem dL_law_404 : decode cL_law 404 = .ok (.iconst 3, 1) := by decide +kernel
theorem dL_law_405 : decode cL_law 405 = .ok (.iadd, 1) := by decide +kernel
theorem dL_law_406 : decode cL_law 406 = .ok (.iaload, 1) := by decide +kernel
theorem dL_law_407 : decode cL_law 407 = .ok (.aload_n 0, 1) := by decide +kernel
theorem dL_law_408 : decode cL_law 408 = .ok (.iload_n 3, 1) := by decide +kernel
theorem dL_law_409 : decode cL_law 409 = .ok (.iconst 4, 1) := by decide +kernel
theorem dL_law_410 : decode cL_law 410 = .ok (.iadd, 1) := by decide +kernel
theorem dL_law_411 : decode cL_law 411 = .ok (.iaload, 1) := by decide +kernel
theorem dL_law_412 : decode cL_law 412 = .ok (.aload_n 0, 1) := by decide +kernel
theorem dL_law_413 : decode cL_law 413 = .ok (.iload_n 3, 1) := by decide +kernel
theorem dL_law_414 : decode cL_law 414 = .ok (.iconst 5, 1) := by decide +kernel
theorem dL_law_415 : decode cL_law 415 = .ok (.iadd, 1) := by decide +kernel
theorem dL_law_416 : decode cL_law 416 = .ok (.iaload, 1) := by decide +kernel
theorem dL_law_417 : decode cL_law 417 = .ok (.invokevirtual 44, 3) := by decide +kernel
theorem dL_law_420 : decode cL_law 420 = .ok (.aload_n 2, 1) := by decide +kernel
theorem dL_law_421 : decode cL_law 421 = .ok (.aload_n 0, 1) := by decide +kernel
theorem dL_law_422 : decode cL_law 422 = .ok (.iload_n 3, 1) := by decide +kernel
theorem dL_law_423 : decode cL_law 423 = .ok (.iconst 1, 1) := by decide +kernel
theorem dL_law_424 : decode cL_law 424 = .ok (.iadd, 1) := by decide +kernel
theorem dL_law_425 : decode cL_law 425 = .ok (.iaload, 1) := by decide +kernel
theorem dL_law_426 : decode cL_law 426 = .ok (.aload_n 0, 1) := by decide +kernel
theorem dL_law_427 : decode cL_law 427 = .ok (.iload_n 3, 1) := by decide +kernel
theorem dL_law_428 : decode cL_law 428 = .ok (.iconst 2, 1) := by decide +kernel
theorem dL_law_429 : decode cL_law 429 = .ok (.iadd, 1) := by decide +kernel
theorem dL_law_430 : decode cL_law 430 = .ok (.iaload, 1) := by decide +kernel
theorem dL_law_431 : decode cL_law 431 = .ok (.ifCond .eq 7, 3) := by decide +kernel
theorem dL_law_434 : decode cL_law 434 = .ok (.iconst 1, 1) := by decide +kernel
theorem dL_law_435 : decode cL_law 435 = .ok (.goto 4, 3) := by decide +kernel
theorem dL_law_438 : decode cL_law 438 = .ok (.iconst 0, 1) := by decide +kernel
theorem dL_law_439 : decode cL_law 439 = .ok (.aload_n 0, 1) := by decide +kernel
theorem dL_law_440 : decode cL_law 440 = .ok (.iload_n 3, 1) := by decide +kernel
theorem dL_law_441 : decode cL_law 441 = .ok (.iconst 3, 1) := by decide +kernel
theorem dL_law_442 : decode cL_law 442 = .ok (.iadd, 1) := by decide +kernel
theorem dL_law_443 : decode cL_law 443 = .ok (.iaload, 1) := by decide +kernel
theorem dL_law_444 : decode cL_law 444 = .ok (.aload_n 0, 1) := by decide +kernel
theorem dL_law_445 : decode cL_law 445 = .ok (.iload_n 3, 1) := by decide +kernel
theorem dL_law_446 : decode cL_law 446 = .ok (.iconst 4, 1) := by decide +kernel
theorem dL_law_447 : decode cL_law 447 = .ok (.iadd, 1) := by decide +kernel
theorem dL_law_448 : decode cL_law 448 = .ok (.iaload, 1) := by decide +kernel
theorem dL_law_449 : decode cL_law 449 = .ok (.aload_n 0, 1) := by decide +kernel
theorem dL_law_450 : decode cL_law 450 = .ok (.iload_n 3, 1) := by decide +kernel
theorem dL_law_451 : decode cL_law 451 = .ok (.iconst 5, 1) := by decide +kernel
theorem dL_law_452 : decode cL_law 452 = .ok (.iadd, 1) := by decide +kernel
theorem dL_law_453 : decode cL_law 453 = .ok (.iaload, 1) := by decide +kernel
theorem dL_law_454 : decode cL_law 454 = .ok (.invokevirtual 48, 3) := by decide +kernel
theorem dL_law_457 : decode cL_law 457 = .ok (.if_icmp .eq 657, 3) := by decide +kernel
theorem dL_law_460 : decode cL_law 460 = .ok (.iconst 0, 1) := by decide +kernel
theorem dL_law_461 : decode cL_law 461 = .ok (.ireturn, 1) := by decide +kernel
theorem dL_law_462 : decode cL_law 462 = .ok (.aload_n 1, 1) := by decide +kernel
theorem dL_law_463 : decode cL_law 463 = .ok (.aload_n 0, 1) := by decide +kernel
theorem dL_law_464 : decode cL_law 464 = .ok (.iload_n 3, 1) := by decide +kernel
theorem dL_law_465 : decode cL_law 465 = .ok (.iconst 1, 1) := by decide +kernel
theorem dL_law_466 : decode cL_law 466 = .ok (.iadd, 1) := by decide +kernel
theorem dL_law_467 : decode cL_law 467 = .ok (.iaload, 1) := by decide +kernel
theorem dL_law_468 : decode cL_law 468 = .ok (.aload_n 0, 1) := by decide +kernel
theorem dL_law_469 : decode cL_law 469 = .ok (.iload_n 3, 1) := by decide +kernel
theorem dL_law_470 : decode cL_law 470 = .ok (.iconst 2, 1) := by decide +kernel
theorem dL_law_471 : decode cL_law 471 = .ok (.iadd, 1) := by decide +kernel
theorem dL_law_472 : decode cL_law 472 = .ok (.iaload, 1) := by decide +kernel
theorem dL_law_473 : decode cL_law 473 = .ok (.invokevirtual 49, 3) := by decide +kernel
theorem dL_law_476 : decode cL_law 476 = .ok (.aload_n 2, 1) := by decide +kernel
theorem dL_law_477 : decode cL_law 477 = .ok (.aload_n 0, 1) := by decide +kernel
theorem dL_law_478 : decode cL_law 478 = .ok (.iload_n 3, 1) := by decide +kernel
theorem dL_law_479 : decode cL_law 479 = .ok (.iconst 1, 1) := by decide +kernel
theorem dL_law_480 : decode cL_law 480 = .ok (.iadd, 1) := by decide +kernel
theorem dL_law_481 : decode cL_law 481 = .ok (.iaload, 1) := by decide +kernel
theorem dL_law_482 : decode cL_law 482 = .ok (.aload_n 0, 1) := by decide +kernel
theorem dL_law_483 : decode cL_law 483 = .ok (.iload_n 3, 1) := by decide +kernel
theorem dL_law_484 : decode cL_law 484 = .ok (.iconst 2, 1) := by decide +kernel
theorem dL_law_485 : decode cL_law 485 = .ok (.iadd, 1) := by decide +kernel
theorem dL_law_486 : decode cL_law 486 = .ok (.iaload, 1) := by decide +kernel
theorem dL_law_487 : decode cL_law 487 = .ok (.invokevirtual 53, 3) := by decide +kernel
theorem dL_law_490 : decode cL_law 490 = .ok (.if_icmp .eq 624, 3) := by decide +kernel
theorem dL_law_493 : decode cL_law 493 = .ok (.iconst 0, 1) := by decide +kernel
theorem dL_law_494 : decode cL_law 494 = .ok (.ireturn, 1) := by decide +kernel
theorem dL_law_495 : decode cL_law 495 = .ok (.aload_n 1, 1) := by decide +kernel
theorem dL_law_496 : decode cL_law 496 = .ok (.aload_n 0, 1) := by decide +kernel
theorem dL_law_497 : decode cL_law 497 = .ok (.iload_n 3, 1) := by decide +kernel
theorem dL_law_498 : decode cL_law 498 = .ok (.iconst 1, 1) := by decide +kernel
theorem dL_law_499 : decode cL_law 499 = .ok (.iadd, 1) := by decide +kernel
theorem dL_law_500 : decode cL_law 500 = .ok (.iaload, 1) := by decide +kernel
theorem dL_law_501 : decode cL_law 501 = .ok (.aload_n 0, 1) := by decide +kernel
theorem dL_law_502 : decode cL_law 502 = .ok (.iload_n 3, 1) := by decide +kernel
theorem dL_law_503 : decode cL_law 503 = .ok (.iconst 2, 1) := by decide +kernel
theorem dL_law_504 : decode cL_law 504 = .ok (.iadd, 1) := by decide +kernel
theorem dL_law_505 : decode cL_law 505 = .ok (.iaload, 1) := by decide +kernel
theorem dL_law_506 : decode cL_law 506 = .ok (.invokevirtual 54, 3) := by decide +kernel
theorem dL_law_509 : decode cL_law 509 = .ok (.aload_n 2, 1) := by decide +kernel
theorem dL_law_510 : decode cL_law 510 = .ok (.aload_n 0, 1) := by decide +kernel
theorem dL_law_511 : decode cL_law 511 = .ok (.iload_n 3, 1) := by decide +kernel
theorem dL_law_512 : decode cL_law 512 = .ok (.iconst 1, 1) := by decide +kernel
theorem dL_law_513 : decode cL_law 513 = .ok (.iadd, 1) := by decide +kernel
theorem dL_law_514 : decode cL_law 514 = .ok (.iaload, 1) := by decide +kernel
theorem dL_law_515 : decode cL_law 515 = .ok (.aload_n 0, 1) := by decide +kernel
theorem dL_law_516 : decode cL_law 516 = .ok (.iload_n 3, 1) := by decide +kernel
theorem dL_law_517 : decode cL_law 517 = .ok (.iconst 2, 1) := by decide +kernel
theorem dL_law_518 : decode cL_law 518 = .ok (.iadd, 1) := by decide +kernel
theorem dL_law_519 : decode cL_law 519 = .ok (.iaload, 1) := by decide +kernel
theorem dL_law_520 : decode cL_law 520 = .ok (.invokevirtual 58, 3) := by decide +kernel
theorem dL_law_523 : decode cL_law 523 = .ok (.if_icmp .eq 591, 3) := by decide +kernel
theorem dL_law_526 : decode cL_law 526 = .ok (.iconst 0, 1) := by decide +kernel
theorem dL_law_527 : decode cL_law 527 = .ok (.ireturn, 1) := by decide +kernel
theorem dL_law_528 : decode cL_law 528 = .ok (.aload_n 1, 1) := by decide +kernel
theorem dL_law_529 : decode cL_law 529 = .ok (.aload_n 0, 1) := by decide +kernel
theorem dL_law_530 : decode cL_law 530 = .ok (.iload_n 3, 1) := by decide +kernel
theorem dL_law_531 : decode cL_law 531 = .ok (.iconst 1, 1) := by decide +kernel
theorem dL_law_532 : decode cL_law 532 = .ok (.iadd, 1) := by decide +kernel
theorem dL_law_533 : decode cL_law 533 = .ok (.iaload, 1) := by decide +kernel
theorem dL_law_534 : decode cL_law 534 = .ok (.aload_n 0, 1) := by decide +kernel
theorem dL_law_535 : decode cL_law 535 = .ok (.iload_n 3, 1) := by decide +kernel
theorem dL_law_536 : decode cL_law 536 = .ok (.iconst 2, 1) := by decide +kernel
theorem dL_law_537 : decode cL_law 537 = .ok (.iadd, 1) := by decide +kernel
theorem dL_law_538 : decode cL_law 538 = .ok (.iaload, 1) := by decide +kernel
theorem dL_law_539 : decode cL_law 539 = .ok (.ifCond .eq 7, 3) := by decide +kernel
theorem dL_law_542 : decode cL_law 542 = .ok (.iconst 1, 1) := by decide +kernel
theorem dL_law_543 : decode cL_law 543 = .ok (.goto 4, 3) := by decide +kernel
theorem dL_law_546 : decode cL_law 546 = .ok (.iconst 0, 1) := by decide +kernel
theorem dL_law_547 : decode cL_law 547 = .ok (.aload_n 0, 1) := by decide +kernel
theorem dL_law_548 : decode cL_law 548 = .ok (.iload_n 3, 1) := by decide +kernel
theorem dL_law_549 : decode cL_law 549 = .ok (.iconst 3, 1) := by decide +kernel
theorem dL_law_550 : decode cL_law 550 = .ok (.iadd, 1) := by decide +kernel
theorem dL_law_551 : decode cL_law 551 = .ok (.iaload, 1) := by decide +kernel
theorem dL_law_552 : decode cL_law 552 = .ok (.invokevirtual 59, 3) := by decide +kernel
theorem dL_law_555 : decode cL_law 555 = .ok (.aload_n 2, 1) := by decide +kernel
theorem dL_law_556 : decode cL_law 556 = .ok (.aload_n 0, 1) := by decide +kernel
theorem dL_law_557 : decode cL_law 557 = .ok (.iload_n 3, 1) := by decide +kernel
theorem dL_law_558 : decode cL_law 558 = .ok (.iconst 1, 1) := by decide +kernel
theorem dL_law_559 : decode cL_law 559 = .ok (.iadd, 1) := by decide +kernel
theorem dL_law_560 : decode cL_law 560 = .ok (.iaload, 1) := by decide +kernel
theorem dL_law_561 : decode cL_law 561 = .ok (.aload_n 0, 1) := by decide +kernel
theorem dL_law_562 : decode cL_law 562 = .ok (.iload_n 3, 1) := by decide +kernel
theorem dL_law_563 : decode cL_law 563 = .ok (.iconst 2, 1) := by decide +kernel
theorem dL_law_564 : decode cL_law 564 = .ok (.iadd, 1) := by decide +kernel
theorem dL_law_565 : decode cL_law 565 = .ok (.iaload, 1) := by decide +kernel
theorem dL_law_566 : decode cL_law 566 = .ok (.ifCond .eq 7, 3) := by decide +kernel
theorem dL_law_569 : decode cL_law 569 = .ok (.iconst 1, 1) := by decide +kernel
theorem dL_law_570 : decode cL_law 570 = .ok (.goto 4, 3) := by decide +kernel
theorem dL_law_573 : decode cL_law 573 = .ok (.iconst 0, 1) := by decide +kernel
theorem dL_law_574 : decode cL_law 574 = .ok (.aload_n 0, 1) := by decide +kernel
theorem dL_law_575 : decode cL_law 575 = .ok (.iload_n 3, 1) := by decide +kernel
theorem dL_law_576 : decode cL_law 576 = .ok (.iconst 3, 1) := by decide +kernel
theorem dL_law_577 : decode cL_law 577 = .ok (.iadd, 1) := by decide +kernel
theorem dL_law_578 : decode cL_law 578 = .ok (.iaload, 1) := by decide +kernel
theorem dL_law_579 : decode cL_law 579 = .ok (.invokevirtual 63, 3) := by decide +kernel
theorem dL_law_582 : decode cL_law 582 = .ok (.if_icmp .eq 532, 3) := by decide +kernel
theorem dL_law_585 : decode cL_law 585 = .ok (.iconst 0, 1) := by decide +kernel
theorem dL_law_586 : decode cL_law 586 = .ok (.ireturn, 1) := by decide +kernel
theorem dL_law_587 : decode cL_law 587 = .ok (.aload_n 1, 1) := by decide +kernel
theorem dL_law_588 : decode cL_law 588 = .ok (.aload_n 0, 1) := by decide +kernel
theorem dL_law_589 : decode cL_law 589 = .ok (.iload_n 3, 1) := by decide +kernel
theorem dL_law_590 : decode cL_law 590 = .ok (.iconst 1, 1) := by decide +kernel
theorem dL_law_591 : decode cL_law 591 = .ok (.iadd, 1) := by decide +kernel
theorem dL_law_592 : decode cL_law 592 = .ok (.iaload, 1) := by decide +kernel
theorem dL_law_593 : decode cL_law 593 = .ok (.aload_n 0, 1) := by decide +kernel
theorem dL_law_594 : decode cL_law 594 = .ok (.iload_n 3, 1) := by decide +kernel
theorem dL_law_595 : decode cL_law 595 = .ok (.iconst 2, 1) := by decide +kernel
theorem dL_law_596 : decode cL_law 596 = .ok (.iadd, 1) := by decide +kernel
theorem dL_law_597 : decode cL_law 597 = .ok (.iaload, 1) := by decide +kernel
theorem dL_law_598 : decode cL_law 598 = .ok (.ifCond .eq 7, 3) := by decide +kernel
theorem dL_law_601 : decode cL_law 601 = .ok (.iconst 1, 1) := by decide +kernel
theorem dL_law_602 : decode cL_law 602 = .ok (.goto 4, 3) := by decide +kernel
theorem dL_law_605 : decode cL_law 605 = .ok (.iconst 0, 1) := by decide +kernel
theorem dL_law_606 : decode cL_law 606 = .ok (.aload_n 0, 1) := by decide +kernel
theorem dL_law_607 : decode cL_law 607 = .ok (.iload_n 3, 1) := by decide +kernel
theorem dL_law_608 : decode cL_law 608 = .ok (.iconst 3, 1) := by decide +kernel
theorem dL_law_609 : decode cL_law 609 = .ok (.iadd, 1) := by decide +kernel
theorem dL_law_610 : decode cL_law 610 = .ok (.iaload, 1) := by decide +kernel
theorem dL_law_611 : decode cL_law 611 = .ok (.ifCond .eq 7, 3) := by decide +kernel
theorem dL_law_614 : decode cL_law 614 = .ok (.iconst 1, 1) := by decide +kernel
theorem dL_law_615 : decode cL_law 615 = .ok (.goto 4, 3) := by decide +kernel
theorem dL_law_618 : decode cL_law 618 = .ok (.iconst 0, 1) := by decide +kernel
theorem dL_law_619 : decode cL_law 619 = .ok (.aload_n 0, 1) := by decide +kernel
theorem dL_law_620 : decode cL_law 620 = .ok (.iload_n 3, 1) := by decide +kernel
theorem dL_law_621 : decode cL_law 621 = .ok (.iconst 4, 1) := by decide +kernel
theorem dL_law_622 : decode cL_law 622 = .ok (.iadd, 1) := by decide +kernel
theorem dL_law_623 : decode cL_law 623 = .ok (.iaload, 1) := by decide +kernel
theorem dL_law_624 : decode cL_law 624 = .ok (.invokevirtual 64, 3) := by decide +kernel
theorem dL_law_627 : decode cL_law 627 = .ok (.aload_n 2, 1) := by decide +kernel
theorem dL_law_628 : decode cL_law 628 = .ok (.aload_n 0, 1) := by decide +kernel
theorem dL_law_629 : decode cL_law 629 = .ok (.iload_n 3, 1) := by decide +kernel
theorem dL_law_630 : decode cL_law 630 = .ok (.iconst 1, 1) := by decide +kernel
theorem dL_law_631 : decode cL_law 631 = .ok (.iadd, 1) := by decide +kernel
theorem dL_law_632 : decode cL_law 632 = .ok (.iaload, 1) := by decide +kernel
theorem dL_law_633 : decode cL_law 633 = .ok (.aload_n 0, 1) := by decide +kernel
theorem dL_law_634 : decode cL_law 634 = .ok (.iload_n 3, 1) := by decide +kernel
theorem dL_law_635 : decode cL_law 635 = .ok (.iconst 2, 1) := by decide +kernel
theorem dL_law_636 : decode cL_law 636 = .ok (.iadd, 1) := by decide +kernel
theorem dL_law_637 : decode cL_law 637 = .ok (.iaload, 1) := by decide +kernel
theorem dL_law_638 : decode cL_law 638 = .ok (.ifCond .eq 7, 3) := by decide +kernel
theorem dL_law_641 : decode cL_law 641 = .ok (.iconst 1, 1) := by decide +kernel
theorem dL_law_642 : decode cL_law 642 = .ok (.goto 4, 3) := by decide +kernel
theorem dL_law_645 : decode cL_law 645 = .ok (.iconst 0, 1) := by decide +kernel
theorem dL_law_646 : decode cL_law 646 = .ok (.aload_n 0, 1) := by decide +kernel
theorem dL_law_647 : decode cL_law 647 = .ok (.iload_n 3, 1) := by decide +kernel
theorem dL_law_648 : decode cL_law 648 = .ok (.iconst 3, 1) := by decide +kernel
theorem dL_law_649 : decode cL_law 649 = .ok (.iadd, 1) := by decide +kernel
theorem dL_law_650 : decode cL_law 650 = .ok (.iaload, 1) := by decide +kernel
theorem dL_law_651 : decode cL_law 651 = .ok (.ifCond .eq 7, 3) := by decide +kernel
theorem dL_law_654 : decode cL_law 654 = .ok (.iconst 1, 1) := by decide +kernel
theorem dL_law_655 : decode cL_law 655 = .ok (.goto 4, 3) := by decide +kernel
theorem dL_law_658 : decode cL_law 658 = .ok (.iconst 0, 1) := by decide +kernel
theorem dL_law_659 : decode cL_law 659 = .ok (.aload_n 0, 1) := by decide +kernel
theorem dL_law_660 : decode cL_law 660 = .ok (.iload_n 3, 1) := by decide +kernel
theorem dL_law_661 : decode cL_law 661 = .ok (.iconst 4, 1) := by decide +kernel
theorem dL_law_662 : decode cL_law 662 = .ok (.iadd, 1) := by decide +kernel
theorem dL_law_663 : decode cL_law 663 = .ok (.iaload, 1) := by decide +kernel
theorem dL_law_664 : decode cL_law 664 = .ok (.invokevirtual 68, 3) := by decide +kernel
theorem dL_law_667 : decode cL_law 667 = .ok (.if_icmp .eq 447, 3) := by decide +kernel
theorem dL_law_670 : decode cL_law 670 = .ok (.iconst 0, 1) := by decide +kernel
theorem dL_law_671 : decode cL_law 671 = .ok (.ireturn, 1) := by decide +kernel
theorem dL_law_672 : decode cL_law 672 = .ok (.aload_n 1, 1) := by decide +kernel
theorem dL_law_673 : decode cL_law 673 = .ok (.aload_n 0, 1) := by decide +kernel
theorem dL_law_674 : decode cL_law 674 = .ok (.iload_n 3, 1) := by decide +kernel
theorem dL_law_675 : decode cL_law 675 = .ok (.iconst 1, 1) := by decide +kernel
theorem dL_law_676 : decode cL_law 676 = .ok (.iadd, 1) := by decide +kernel
theorem dL_law_677 : decode cL_law 677 = .ok (.iaload, 1) := by decide +kernel
theorem dL_law_678 : decode cL_law 678 = .ok (.invokevirtual 69, 3) := by decide +kernel
theorem dL_law_681 : decode cL_law 681 = .ok (.aload_n 2, 1) := by decide +kernel
theorem dL_law_682 : decode cL_law 682 = .ok (.aload_n 0, 1) := by decide +kernel
theorem dL_law_683 : decode cL_law 683 = .ok (.iload_n 3, 1) := by decide +kernel
theorem dL_law_684 : decode cL_law 684 = .ok (.iconst 1, 1) := by decide +kernel
theorem dL_law_685 : decode cL_law 685 = .ok (.iadd, 1) := by decide +kernel
theorem dL_law_686 : decode cL_law 686 = .ok (.iaload, 1) := by decide +kernel
theorem dL_law_687 : decode cL_law 687 = .ok (.invokevirtual 73, 3) := by decide +kernel
theorem dL_law_690 : decode cL_law 690 = .ok (.if_icmp .eq 424, 3) := by decide +kernel
theorem dL_law_693 : decode cL_law 693 = .ok (.iconst 0, 1) := by decide +kernel
theorem dL_law_694 : decode cL_law 694 = .ok (.ireturn, 1) := by decide +kernel
theorem dL_law_695 : decode cL_law 695 = .ok (.aload_n 1, 1) := by decide +kernel
theorem dL_law_696 : decode cL_law 696 = .ok (.aload_n 0, 1) := by decide +kernel
theorem dL_law_697 : decode cL_law 697 = .ok (.iload_n 3, 1) := by decide +kernel
theorem dL_law_698 : decode cL_law 698 = .ok (.iconst 1, 1) := by decide +kernel
theorem dL_law_699 : decode cL_law 699 = .ok (.iadd, 1) := by decide +kernel
theorem dL_law_700 : decode cL_law 700 = .ok (.iaload, 1) := by decide +kernel
theorem dL_law_701 : decode cL_law 701 = .ok (.aload_n 0, 1) := by decide +kernel
theorem dL_law_702 : decode cL_law 702 = .ok (.iload_n 3, 1) := by decide +kernel
theorem dL_law_703 : decode cL_law 703 = .ok (.iconst 2, 1) := by decide +kernel
theorem dL_law_704 : decode cL_law 704 = .ok (.iadd, 1) := by decide +kernel
theorem dL_law_705 : decode cL_law 705 = .ok (.iaload, 1) := by decide +kernel
theorem dL_law_706 : decode cL_law 706 = .ok (.invokevirtual 74, 3) := by decide +kernel
theorem dL_law_709 : decode cL_law 709 = .ok (.aload_n 2, 1) := by decide +kernel
theorem dL_law_710 : decode cL_law 710 = .ok (.aload_n 0, 1) := by decide +kernel
theorem dL_law_711 : decode cL_law 711 = .ok (.iload_n 3, 1) := by decide +kernel
theorem dL_law_712 : decode cL_law 712 = .ok (.iconst 1, 1) := by decide +kernel
theorem dL_law_713 : decode cL_law 713 = .ok (.iadd, 1) := by decide +kernel
theorem dL_law_714 : decode cL_law 714 = .ok (.iaload, 1) := by decide +kernel
theorem dL_law_715 : decode cL_law 715 = .ok (.aload_n 0, 1) := by decide +kernel
theorem dL_law_716 : decode cL_law 716 = .ok (.iload_n 3, 1) := by decide +kernel
theorem dL_law_717 : decode cL_law 717 = .ok (.iconst 2, 1) := by decide +kernel
theorem dL_law_718 : decode cL_law 718 = .ok (.iadd, 1) := by decide +kernel
theorem dL_law_719 : decode cL_law 719 = .ok (.iaload, 1) := by decide +kernel
theorem dL_law_720 : decode cL_law 720 = .ok (.invokevirtual 77, 3) := by decide +kernel
theorem dL_law_723 : decode cL_law 723 = .ok (.if_icmp .eq 391, 3) := by decide +kernel
theorem dL_law_726 : decode cL_law 726 = .ok (.iconst 0, 1) := by decide +kernel
theorem dL_law_727 : decode cL_law 727 = .ok (.ireturn, 1) := by decide +kernel
theorem dL_law_728 : decode cL_law 728 = .ok (.aload_n 1, 1) := by decide +kernel
theorem dL_law_729 : decode cL_law 729 = .ok (.aload_n 0, 1) := by decide +kernel
theorem dL_law_730 : decode cL_law 730 = .ok (.iload_n 3, 1) := by decide +kernel
theorem dL_law_731 : decode cL_law 731 = .ok (.iconst 1, 1) := by decide +kernel
theorem dL_law_732 : decode cL_law 732 = .ok (.iadd, 1) := by decide +kernel
theorem dL_law_733 : decode cL_law 733 = .ok (.iaload, 1) := by decide +kernel
theorem dL_law_734 : decode cL_law 734 = .ok (.aload_n 0, 1) := by decide +kernel
theorem dL_law_735 : decode cL_law 735 = .ok (.iload_n 3, 1) := by decide +kernel
theorem dL_law_736 : decode cL_law 736 = .ok (.iconst 2, 1) := by decide +kernel
theorem dL_law_737 : decode cL_law 737 = .ok (.iadd, 1) := by decide +kernel
theorem dL_law_738 : decode cL_law 738 = .ok (.iaload, 1) := by decide +kernel
theorem dL_law_739 : decode cL_law 739 = .ok (.aload_n 0, 1) := by decide +kernel
theorem dL_law_740 : decode cL_law 740 = .ok (.iload_n 3, 1) := by decide +kernel
theorem dL_law_741 : decode cL_law 741 = .ok (.iconst 3, 1) := by decide +kernel
theorem dL_law_742 : decode cL_law 742 = .ok (.iadd, 1) := by decide +kernel
theorem dL_law_743 : decode cL_law 743 = .ok (.iaload, 1) := by decide +kernel
theorem dL_law_744 : decode cL_law 744 = .ok (.invokevirtual 78, 3) := by decide +kernel
theorem dL_law_747 : decode cL_law 747 = .ok (.aload_n 2, 1) := by decide +kernel
theorem dL_law_748 : decode cL_law 748 = .ok (.aload_n 0, 1) := by decide +kernel
theorem dL_law_749 : decode cL_law 749 = .ok (.iload_n 3, 1) := by decide +kernel
theorem dL_law_750 : decode cL_law 750 = .ok (.iconst 1, 1) := by decide +kernel
theorem dL_law_751 : decode cL_law 751 = .ok (.iadd, 1) := by decide +kernel
theorem dL_law_752 : decode cL_law 752 = .ok (.iaload, 1) := by decide +kernel
theorem dL_law_753 : decode cL_law 753 = .ok (.aload_n 0, 1) := by decide +kernel
theorem dL_law_754 : decode cL_law 754 = .ok (.iload_n 3, 1) := by decide +kernel
theorem dL_law_755 : decode cL_law 755 = .ok (.iconst 2, 1) := by decide +kernel
theorem dL_law_756 : decode cL_law 756 = .ok (.iadd, 1) := by decide +kernel
theorem dL_law_757 : decode cL_law 757 = .ok (.iaload, 1) := by decide +kernel
theorem dL_law_758 : decode cL_law 758 = .ok (.aload_n 0, 1) := by decide +kernel
theorem dL_law_759 : decode cL_law 759 = .ok (.iload_n 3, 1) := by decide +kernel
theorem dL_law_760 : decode cL_law 760 = .ok (.iconst 3, 1) := by decide +kernel
theorem dL_law_761 : decode cL_law 761 = .ok (.iadd, 1) := by decide +kernel
theorem dL_law_762 : decode cL_law 762 = .ok (.iaload, 1) := by decide +kernel
theorem dL_law_763 : decode cL_law 763 = .ok (.invokevirtual 81, 3) := by decide +kernel
theorem dL_law_766 : decode cL_law 766 = .ok (.if_icmp .eq 348, 3) := by decide +kernel
theorem dL_law_769 : decode cL_law 769 = .ok (.iconst 0, 1) := by decide +kernel
theorem dL_law_770 : decode cL_law 770 = .ok (.ireturn, 1) := by decide +kernel
theorem dL_law_771 : decode cL_law 771 = .ok (.aload_n 1, 1) := by decide +kernel
theorem dL_law_772 : decode cL_law 772 = .ok (.aload_n 0, 1) := by decide +kernel
theorem dL_law_773 : decode cL_law 773 = .ok (.iload_n 3, 1) := by decide +kernel
theorem dL_law_774 : decode cL_law 774 = .ok (.iconst 1, 1) := by decide +kernel
theorem dL_law_775 : decode cL_law 775 = .ok (.iadd, 1) := by decide +kernel
theorem dL_law_776 : decode cL_law 776 = .ok (.iaload, 1) := by decide +kernel
theorem dL_law_777 : decode cL_law 777 = .ok (.aload_n 0, 1) := by decide +kernel
theorem dL_law_778 : decode cL_law 778 = .ok (.iload_n 3, 1) := by decide +kernel
theorem dL_law_779 : decode cL_law 779 = .ok (.iconst 2, 1) := by decide +kernel
theorem dL_law_780 : decode cL_law 780 = .ok (.iadd, 1) := by decide +kernel
theorem dL_law_781 : decode cL_law 781 = .ok (.iaload, 1) := by decide +kernel
theorem dL_law_782 : decode cL_law 782 = .ok (.aload_n 0, 1) := by decide +kernel
theorem dL_law_783 : decode cL_law 783 = .ok (.iload_n 3, 1) := by decide +kernel
theorem dL_law_784 : decode cL_law 784 = .ok (.iconst 3, 1) := by decide +kernel
theorem dL_law_785 : decode cL_law 785 = .ok (.iadd, 1) := by decide +kernel
theorem dL_law_786 : decode cL_law 786 = .ok (.iaload, 1) := by decide +kernel
theorem dL_law_787 : decode cL_law 787 = .ok (.invokevirtual 82, 3) := by decide +kernel
theorem dL_law_790 : decode cL_law 790 = .ok (.aload_n 2, 1) := by decide +kernel
theorem dL_law_791 : decode cL_law 791 = .ok (.aload_n 0, 1) := by decide +kernel
theorem dL_law_792 : decode cL_law 792 = .ok (.iload_n 3, 1) := by decide +kernel
theorem dL_law_793 : decode cL_law 793 = .ok (.iconst 1, 1) := by decide +kernel
theorem dL_law_794 : decode cL_law 794 = .ok (.iadd, 1) := by decide +kernel
theorem dL_law_795 : decode cL_law 795 = .ok (.iaload, 1) := by decide +kernel
theorem dL_law_796 : decode cL_law 796 = .ok (.aload_n 0, 1) := by decide +kernel
theorem dL_law_797 : decode cL_law 797 = .ok (.iload_n 3, 1) := by decide +kernel
theorem dL_law_798 : decode cL_law 798 = .ok (.iconst 2, 1) := by decide +kernel
theorem dL_law_799 : decode cL_law 799 = .ok (.iadd, 1) := by decide +kernel
theorem dL_law_800 : decode cL_law 800 = .ok (.iaload, 1) := by decide +kernel
theorem dL_law_801 : decode cL_law 801 = .ok (.aload_n 0, 1) := by decide +kernel
theorem dL_law_802 : decode cL_law 802 = .ok (.iload_n 3, 1) := by decide +kernel
theorem dL_law_803 : decode cL_law 803 = .ok (.iconst 3, 1) := by decide +kernel
theorem dL_law_804 : decode cL_law 804 = .ok (.iadd, 1) := by decide +kernel
theorem dL_law_805 : decode cL_law 805 = .ok (.iaload, 1) := by decide +kernel
theorem dL_law_806 : decode cL_law 806 = .ok (.invokevirtual 86, 3) := by decide +kernel
theorem dL_law_809 : decode cL_law 809 = .ok (.if_icmp .eq 305, 3) := by decide +kernel
theorem dL_law_812 : decode cL_law 812 = .ok (.iconst 0, 1) := by decide +kernel
theorem dL_law_813 : decode cL_law 813 = .ok (.ireturn, 1) := by decide +kernel
theorem dL_law_814 : decode cL_law 814 = .ok (.aload_n 1, 1) := by decide +kernel
theorem dL_law_815 : decode cL_law 815 = .ok (.aload_n 0, 1) := by decide +kernel
theorem dL_law_816 : decode cL_law 816 = .ok (.iload_n 3, 1) := by decide +kernel
theorem dL_law_817 : decode cL_law 817 = .ok (.iconst 1, 1) := by decide +kernel
theorem dL_law_818 : decode cL_law 818 = .ok (.iadd, 1) := by decide +kernel
theorem dL_law_819 : decode cL_law 819 = .ok (.iaload, 1) := by decide +kernel
theorem dL_law_820 : decode cL_law 820 = .ok (.invokevirtual 87, 3) := by decide +kernel
theorem dL_law_823 : decode cL_law 823 = .ok (.aload_n 2, 1) := by decide +kernel
theorem dL_law_824 : decode cL_law 824 = .ok (.aload_n 0, 1) := by decide +kernel
theorem dL_law_825 : decode cL_law 825 = .ok (.iload_n 3, 1) := by decide +kernel
theorem dL_law_826 : decode cL_law 826 = .ok (.iconst 1, 1) := by decide +kernel
theorem dL_law_827 : decode cL_law 827 = .ok (.iadd, 1) := by decide +kernel
theorem dL_law_828 : decode cL_law 828 = .ok (.iaload, 1) := by decide +kernel
theorem dL_law_829 : decode cL_law 829 = .ok (.invokevirtual 90, 3) := by decide +kernel
theorem dL_law_832 : decode cL_law 832 = .ok (.if_icmp .eq 282, 3) := by decide +kernel
theorem dL_law_835 : decode cL_law 835 = .ok (.iconst 0, 1) := by decide +kernel
theorem dL_law_836 : decode cL_law 836 = .ok (.ireturn, 1) := by decide +kernel
theorem dL_law_837 : decode cL_law 837 = .ok (.aload_n 1, 1) := by decide +kernel
theorem dL_law_838 : decode cL_law 838 = .ok (.aload_n 0, 1) := by decide +kernel
theorem dL_law_839 : decode cL_law 839 = .ok (.iload_n 3, 1) := by decide +kernel
theorem dL_law_840 : decode cL_law 840 = .ok (.iconst 1, 1) := by decide +kernel
theorem dL_law_841 : decode cL_law 841 = .ok (.iadd, 1) := by decide +kernel
theorem dL_law_842 : decode cL_law 842 = .ok (.iaload, 1) := by decide +kernel
theorem dL_law_843 : decode cL_law 843 = .ok (.invokevirtual 91, 3) := by decide +kernel
theorem dL_law_846 : decode cL_law 846 = .ok (.aload_n 2, 1) := by decide +kernel
theorem dL_law_847 : decode cL_law 847 = .ok (.aload_n 0, 1) := by decide +kernel
theorem dL_law_848 : decode cL_law 848 = .ok (.iload_n 3, 1) := by decide +kernel
theorem dL_law_849 : decode cL_law 849 = .ok (.iconst 1, 1) := by decide +kernel
theorem dL_law_850 : decode cL_law 850 = .ok (.iadd, 1) := by decide +kernel
theorem dL_law_851 : decode cL_law 851 = .ok (.iaload, 1) := by decide +kernel
theorem dL_law_852 : decode cL_law 852 = .ok (.invokevirtual 94, 3) := by decide +kernel
theorem dL_law_855 : decode cL_law 855 = .ok (.if_icmp .eq 259, 3) := by decide +kernel
theorem dL_law_858 : decode cL_law 858 = .ok (.iconst 0, 1) := by decide +kernel
theorem dL_law_859 : decode cL_law 859 = .ok (.ireturn, 1) := by decide +kernel
theorem dL_law_860 : decode cL_law 860 = .ok (.aload_n 1, 1) := by decide +kernel
theorem dL_law_861 : decode cL_law 861 = .ok (.aload_n 0, 1) := by decide +kernel
theorem dL_law_862 : decode cL_law 862 = .ok (.iload_n 3, 1) := by decide +kernel
theorem dL_law_863 : decode cL_law 863 = .ok (.iconst 1, 1) := by decide +kernel
theorem dL_law_864 : decode cL_law 864 = .ok (.iadd, 1) := by decide +kernel
theorem dL_law_865 : decode cL_law 865 = .ok (.iaload, 1) := by decide +kernel
theorem dL_law_866 : decode cL_law 866 = .ok (.invokevirtual 95, 3) := by decide +kernel
theorem dL_law_869 : decode cL_law 869 = .ok (.aload_n 2, 1) := by decide +kernel
theorem dL_law_870 : decode cL_law 870 = .ok (.aload_n 0, 1) := by decide +kernel
theorem dL_law_871 : decode cL_law 871 = .ok (.iload_n 3, 1) := by decide +kernel
theorem dL_law_872 : decode cL_law 872 = .ok (.iconst 1, 1) := by decide +kernel
theorem dL_law_873 : decode cL_law 873 = .ok (.iadd, 1) := by decide +kernel
theorem dL_law_874 : decode cL_law 874 = .ok (.iaload, 1) := by decide +kernel
theorem dL_law_875 : decode cL_law 875 = .ok (.invokevirtual 98, 3) := by decide +kernel
theorem dL_law_878 : decode cL_law 878 = .ok (.if_icmp .eq 236, 3) := by decide +kernel
theorem dL_law_881 : decode cL_law 881 = .ok (.iconst 0, 1) := by decide +kernel
theorem dL_law_882 : decode cL_law 882 = .ok (.ireturn, 1) := by decide +kernel
theorem dL_law_883 : decode cL_law 883 = .ok (.aload_n 1, 1) := by decide +kernel
theorem dL_law_884 : decode cL_law 884 = .ok (.aload_n 0, 1) := by decide +kernel
theorem dL_law_885 : decode cL_law 885 = .ok (.iload_n 3, 1) := by decide +kernel
theorem dL_law_886 : decode cL_law 886 = .ok (.iconst 1, 1) := by decide +kernel
theorem dL_law_887 : decode cL_law 887 = .ok (.iadd, 1) := by decide +kernel
theorem dL_law_888 : decode cL_law 888 = .ok (.iaload, 1) := by decide +kernel
theorem dL_law_889 : decode cL_law 889 = .ok (.invokevirtual 99, 3) := by decide +kernel
theorem dL_law_892 : decode cL_law 892 = .ok (.aload_n 2, 1) := by decide +kernel
theorem dL_law_893 : decode cL_law 893 = .ok (.aload_n 0, 1) := by decide +kernel
theorem dL_law_894 : decode cL_law 894 = .ok (.iload_n 3, 1) := by decide +kernel
theorem dL_law_895 : decode cL_law 895 = .ok (.iconst 1, 1) := by decide +kernel
theorem dL_law_896 : decode cL_law 896 = .ok (.iadd, 1) := by decide +kernel
theorem dL_law_897 : decode cL_law 897 = .ok (.iaload, 1) := by decide +kernel
theorem dL_law_898 : decode cL_law 898 = .ok (.invokevirtual 102, 3) := by decide +kernel
theorem dL_law_901 : decode cL_law 901 = .ok (.if_icmp .eq 213, 3) := by decide +kernel
theorem dL_law_904 : decode cL_law 904 = .ok (.iconst 0, 1) := by decide +kernel
theorem dL_law_905 : decode cL_law 905 = .ok (.ireturn, 1) := by decide +kernel
theorem dL_law_906 : decode cL_law 906 = .ok (.aload_n 1, 1) := by decide +kernel
theorem dL_law_907 : decode cL_law 907 = .ok (.aload_n 0, 1) := by decide +kernel
theorem dL_law_908 : decode cL_law 908 = .ok (.iload_n 3, 1) := by decide +kernel
theorem dL_law_909 : decode cL_law 909 = .ok (.iconst 1, 1) := by decide +kernel
theorem dL_law_910 : decode cL_law 910 = .ok (.iadd, 1) := by decide +kernel
theorem dL_law_911 : decode cL_law 911 = .ok (.iaload, 1) := by decide +kernel
theorem dL_law_912 : decode cL_law 912 = .ok (.aload_n 0, 1) := by decide +kernel
theorem dL_law_913 : decode cL_law 913 = .ok (.iload_n 3, 1) := by decide +kernel
theorem dL_law_914 : decode cL_law 914 = .ok (.iconst 2, 1) := by decide +kernel
theorem dL_law_915 : decode cL_law 915 = .ok (.iadd, 1) := by decide +kernel
theorem dL_law_916 : decode cL_law 916 = .ok (.iaload, 1) := by decide +kernel
theorem dL_law_917 : decode cL_law 917 = .ok (.aload_n 0, 1) := by decide +kernel
theorem dL_law_918 : decode cL_law 918 = .ok (.iload_n 3, 1) := by decide +kernel
theorem dL_law_919 : decode cL_law 919 = .ok (.iconst 3, 1) := by decide +kernel
theorem dL_law_920 : decode cL_law 920 = .ok (.iadd, 1) := by decide +kernel
theorem dL_law_921 : decode cL_law 921 = .ok (.iaload, 1) := by decide +kernel
theorem dL_law_922 : decode cL_law 922 = .ok (.aload_n 0, 1) := by decide +kernel
theorem dL_law_923 : decode cL_law 923 = .ok (.iload_n 3, 1) := by decide +kernel
theorem dL_law_924 : decode cL_law 924 = .ok (.iconst 4, 1) := by decide +kernel
theorem dL_law_925 : decode cL_law 925 = .ok (.iadd, 1) := by decide +kernel
theorem dL_law_926 : decode cL_law 926 = .ok (.iaload, 1) := by decide +kernel
theorem dL_law_927 : decode cL_law 927 = .ok (.invokevirtual 103, 3) := by decide +kernel
theorem dL_law_930 : decode cL_law 930 = .ok (.aload_n 2, 1) := by decide +kernel
theorem dL_law_931 : decode cL_law 931 = .ok (.aload_n 0, 1) := by decide +kernel
theorem dL_law_932 : decode cL_law 932 = .ok (.iload_n 3, 1) := by decide +kernel
theorem dL_law_933 : decode cL_law 933 = .ok (.iconst 1, 1) := by decide +kernel
theorem dL_law_934 : decode cL_law 934 = .ok (.iadd, 1) := by decide +kernel
theorem dL_law_935 : decode cL_law 935 = .ok (.iaload, 1) := by decide +kernel
theorem dL_law_936 : decode cL_law 936 = .ok (.aload_n 0, 1) := by decide +kernel
theorem dL_law_937 : decode cL_law 937 = .ok (.iload_n 3, 1) := by decide +kernel
theorem dL_law_938 : decode cL_law 938 = .ok (.iconst 2, 1) := by decide +kernel
theorem dL_law_939 : decode cL_law 939 = .ok (.iadd, 1) := by decide +kernel
theorem dL_law_940 : decode cL_law 940 = .ok (.iaload, 1) := by decide +kernel
theorem dL_law_941 : decode cL_law 941 = .ok (.aload_n 0, 1) := by decide +kernel
theorem dL_law_942 : decode cL_law 942 = .ok (.iload_n 3, 1) := by decide +kernel
theorem dL_law_943 : decode cL_law 943 = .ok (.iconst 3, 1) := by decide +kernel
theorem dL_law_944 : decode cL_law 944 = .ok (.iadd, 1) := by decide +kernel
theorem dL_law_945 : decode cL_law 945 = .ok (.iaload, 1) := by decide +kernel
theorem dL_law_946 : decode cL_law 946 = .ok (.aload_n 0, 1) := by decide +kernel
theorem dL_law_947 : decode cL_law 947 = .ok (.iload_n 3, 1) := by decide +kernel
theorem dL_law_948 : decode cL_law 948 = .ok (.iconst 4, 1) := by decide +kernel
theorem dL_law_949 : decode cL_law 949 = .ok (.iadd, 1) := by decide +kernel
theorem dL_law_950 : decode cL_law 950 = .ok (.iaload, 1) := by decide +kernel
theorem dL_law_951 : decode cL_law 951 = .ok (.invokevirtual 107, 3) := by decide +kernel
theorem dL_law_954 : decode cL_law 954 = .ok (.if_icmp .eq 160, 3) := by decide +kernel
theorem dL_law_957 : decode cL_law 957 = .ok (.iconst 0, 1) := by decide +kernel
theorem dL_law_958 : decode cL_law 958 = .ok (.ireturn, 1) := by decide +kernel
theorem dL_law_959 : decode cL_law 959 = .ok (.aload_n 1, 1) := by decide +kernel
theorem dL_law_960 : decode cL_law 960 = .ok (.invokevirtual 108, 3) := by decide +kernel
theorem dL_law_963 : decode cL_law 963 = .ok (.aload_n 2, 1) := by decide +kernel
theorem dL_law_964 : decode cL_law 964 = .ok (.invokevirtual 111, 3) := by decide +kernel
theorem dL_law_967 : decode cL_law 967 = .ok (.if_icmp .eq 147, 3) := by decide +kernel
theorem dL_law_970 : decode cL_law 970 = .ok (.iconst 0, 1) := by decide +kernel
theorem dL_law_971 : decode cL_law 971 = .ok (.ireturn, 1) := by decide +kernel
theorem dL_law_972 : decode cL_law 972 = .ok (.aload_n 1, 1) := by decide +kernel
theorem dL_law_973 : decode cL_law 973 = .ok (.aload_n 0, 1) := by decide +kernel
theorem dL_law_974 : decode cL_law 974 = .ok (.iload_n 3, 1) := by decide +kernel
theorem dL_law_975 : decode cL_law 975 = .ok (.iconst 1, 1) := by decide +kernel
theorem dL_law_976 : decode cL_law 976 = .ok (.iadd, 1) := by decide +kernel
theorem dL_law_977 : decode cL_law 977 = .ok (.iaload, 1) := by decide +kernel
theorem dL_law_978 : decode cL_law 978 = .ok (.invokevirtual 112, 3) := by decide +kernel
theorem dL_law_981 : decode cL_law 981 = .ok (.aload_n 2, 1) := by decide +kernel
theorem dL_law_982 : decode cL_law 982 = .ok (.aload_n 0, 1) := by decide +kernel
theorem dL_law_983 : decode cL_law 983 = .ok (.iload_n 3, 1) := by decide +kernel
theorem dL_law_984 : decode cL_law 984 = .ok (.iconst 1, 1) := by decide +kernel
theorem dL_law_985 : decode cL_law 985 = .ok (.iadd, 1) := by decide +kernel
theorem dL_law_986 : decode cL_law 986 = .ok (.iaload, 1) := by decide +kernel
theorem dL_law_987 : decode cL_law 987 = .ok (.invokevirtual 115, 3) := by decide +kernel
theorem dL_law_990 : decode cL_law 990 = .ok (.if_icmp .eq 124, 3) := by decide +kernel
theorem dL_law_993 : decode cL_law 993 = .ok (.iconst 0, 1) := by decide +kernel
theorem dL_law_994 : decode cL_law 994 = .ok (.ireturn, 1) := by decide +kernel
theorem dL_law_995 : decode cL_law 995 = .ok (.aload_n 1, 1) := by decide +kernel
theorem dL_law_996 : decode cL_law 996 = .ok (.aload_n 0, 1) := by decide +kernel
theorem dL_law_997 : decode cL_law 997 = .ok (.iload_n 3, 1) := by decide +kernel
theorem dL_law_998 : decode cL_law 998 = .ok (.iconst 1, 1) := by decide +kernel
theorem dL_law_999 : decode cL_law 999 = .ok (.iadd, 1) := by decide +kernel
theorem dL_law_1000 : decode cL_law 1000 = .ok (.iaload, 1) := by decide +kernel
theorem dL_law_1001 : decode cL_law 1001 = .ok (.aload_n 0, 1) := by decide +kernel
theorem dL_law_1002 : decode cL_law 1002 = .ok (.iload_n 3, 1) := by decide +kernel
theorem dL_law_1003 : decode cL_law 1003 = .ok (.iconst 2, 1) := by decide +kernel
theorem dL_law_1004 : decode cL_law 1004 = .ok (.iadd, 1) := by decide +kernel
theorem dL_law_1005 : decode cL_law 1005 = .ok (.iaload, 1) := by decide +kernel
theorem dL_law_1006 : decode cL_law 1006 = .ok (.invokevirtual 116, 3) := by decide +kernel
theorem dL_law_1009 : decode cL_law 1009 = .ok (.aload_n 2, 1) := by decide +kernel
theorem dL_law_1010 : decode cL_law 1010 = .ok (.aload_n 0, 1) := by decide +kernel
theorem dL_law_1011 : decode cL_law 1011 = .ok (.iload_n 3, 1) := by decide +kernel
theorem dL_law_1012 : decode cL_law 1012 = .ok (.iconst 1, 1) := by decide +kernel
theorem dL_law_1013 : decode cL_law 1013 = .ok (.iadd, 1) := by decide +kernel
theorem dL_law_1014 : decode cL_law 1014 = .ok (.iaload, 1) := by decide +kernel
theorem dL_law_1015 : decode cL_law 1015 = .ok (.aload_n 0, 1) := by decide +kernel
theorem dL_law_1016 : decode cL_law 1016 = .ok (.iload_n 3, 1) := by decide +kernel
theorem dL_law_1017 : decode cL_law 1017 = .ok (.iconst 2, 1) := by decide +kernel
theorem dL_law_1018 : decode cL_law 1018 = .ok (.iadd, 1) := by decide +kernel
theorem dL_law_1019 : decode cL_law 1019 = .ok (.iaload, 1) := by decide +kernel
theorem dL_law_1020 : decode cL_law 1020 = .ok (.invokevirtual 119, 3) := by decide +kernel
theorem dL_law_1023 : decode cL_law 1023 = .ok (.if_icmp .eq 91, 3) := by decide +kernel
theorem dL_law_1026 : decode cL_law 1026 = .ok (.iconst 0, 1) := by decide +kernel
theorem dL_law_1027 : decode cL_law 1027 = .ok (.ireturn, 1) := by decide +kernel
theorem dL_law_1028 : decode cL_law 1028 = .ok (.aload_n 1, 1) := by decide +kernel
theorem dL_law_1029 : decode cL_law 1029 = .ok (.aload_n 0, 1) := by decide +kernel
theorem dL_law_1030 : decode cL_law 1030 = .ok (.iload_n 3, 1) := by decide +kernel
theorem dL_law_1031 : decode cL_law 1031 = .ok (.iconst 1, 1) := by decide +kernel
theorem dL_law_1032 : decode cL_law 1032 = .ok (.iadd, 1) := by decide +kernel
theorem dL_law_1033 : decode cL_law 1033 = .ok (.iaload, 1) := by decide +kernel
theorem dL_law_1034 : decode cL_law 1034 = .ok (.aload_n 0, 1) := by decide +kernel
theorem dL_law_1035 : decode cL_law 1035 = .ok (.iload_n 3, 1) := by decide +kernel
theorem dL_law_1036 : decode cL_law 1036 = .ok (.iconst 2, 1) := by decide +kernel
theorem dL_law_1037 : decode cL_law 1037 = .ok (.iadd, 1) := by decide +kernel
theorem dL_law_1038 : decode cL_law 1038 = .ok (.iaload, 1) := by decide +kernel
theorem dL_law_1039 : decode cL_law 1039 = .ok (.aload_n 0, 1) := by decide +kernel
theorem dL_law_1040 : decode cL_law 1040 = .ok (.iload_n 3, 1) := by decide +kernel
theorem dL_law_1041 : decode cL_law 1041 = .ok (.iconst 3, 1) := by decide +kernel
theorem dL_law_1042 : decode cL_law 1042 = .ok (.iadd, 1) := by decide +kernel
theorem dL_law_1043 : decode cL_law 1043 = .ok (.iaload, 1) := by decide +kernel
theorem dL_law_1044 : decode cL_law 1044 = .ok (.invokevirtual 120, 3) := by decide +kernel
theorem dL_law_1047 : decode cL_law 1047 = .ok (.aload_n 2, 1) := by decide +kernel
theorem dL_law_1048 : decode cL_law 1048 = .ok (.aload_n 0, 1) := by decide +kernel
theorem dL_law_1049 : decode cL_law 1049 = .ok (.iload_n 3, 1) := by decide +kernel
theorem dL_law_1050 : decode cL_law 1050 = .ok (.iconst 1, 1) := by decide +kernel
theorem dL_law_1051 : decode cL_law 1051 = .ok (.iadd, 1) := by decide +kernel
theorem dL_law_1052 : decode cL_law 1052 = .ok (.iaload, 1) := by decide +kernel
theorem dL_law_1053 : decode cL_law 1053 = .ok (.aload_n 0, 1) := by decide +kernel
theorem dL_law_1054 : decode cL_law 1054 = .ok (.iload_n 3, 1) := by decide +kernel
theorem dL_law_1055 : decode cL_law 1055 = .ok (.iconst 2, 1) := by decide +kernel
theorem dL_law_1056 : decode cL_law 1056 = .ok (.iadd, 1) := by decide +kernel
theorem dL_law_1057 : decode cL_law 1057 = .ok (.iaload, 1) := by decide +kernel
theorem dL_law_1058 : decode cL_law 1058 = .ok (.aload_n 0, 1) := by decide +kernel
theorem dL_law_1059 : decode cL_law 1059 = .ok (.iload_n 3, 1) := by decide +kernel
theorem dL_law_1060 : decode cL_law 1060 = .ok (.iconst 3, 1) := by decide +kernel
theorem dL_law_1061 : decode cL_law 1061 = .ok (.iadd, 1) := by decide +kernel
theorem dL_law_1062 : decode cL_law 1062 = .ok (.iaload, 1) := by decide +kernel
theorem dL_law_1063 : decode cL_law 1063 = .ok (.invokevirtual 123, 3) := by decide +kernel
theorem dL_law_1066 : decode cL_law 1066 = .ok (.if_icmp .eq 48, 3) := by decide +kernel
theorem dL_law_1069 : decode cL_law 1069 = .ok (.iconst 0, 1) := by decide +kernel
theorem dL_law_1070 : decode cL_law 1070 = .ok (.ireturn, 1) := by decide +kernel
theorem dL_law_1071 : decode cL_law 1071 = .ok (.aload_n 1, 1) := by decide +kernel
theorem dL_law_1072 : decode cL_law 1072 = .ok (.aload_n 0, 1) := by decide +kernel
theorem dL_law_1073 : decode cL_law 1073 = .ok (.iload_n 3, 1) := by decide +kernel
theorem dL_law_1074 : decode cL_law 1074 = .ok (.iconst 1, 1) := by decide +kernel
theorem dL_law_1075 : decode cL_law 1075 = .ok (.iadd, 1) := by decide +kernel
theorem dL_law_1076 : decode cL_law 1076 = .ok (.iaload, 1) := by decide +kernel
theorem dL_law_1077 : decode cL_law 1077 = .ok (.aload_n 0, 1) := by decide +kernel
theorem dL_law_1078 : decode cL_law 1078 = .ok (.iload_n 3, 1) := by decide +kernel
theorem dL_law_1079 : decode cL_law 1079 = .ok (.iconst 2, 1) := by decide +kernel
theorem dL_law_1080 : decode cL_law 1080 = .ok (.iadd, 1) := by decide +kernel
theorem dL_law_1081 : decode cL_law 1081 = .ok (.iaload, 1) := by decide +kernel
theorem dL_law_1082 : decode cL_law 1082 = .ok (.aload_n 0, 1) := by decide +kernel
theorem dL_law_1083 : decode cL_law 1083 = .ok (.iload_n 3, 1) := by decide +kernel
theorem dL_law_1084 : decode cL_law 1084 = .ok (.iconst 3, 1) := by decide +kernel
theorem dL_law_1085 : decode cL_law 1085 = .ok (.iadd, 1) := by decide +kernel
theorem dL_law_1086 : decode cL_law 1086 = .ok (.iaload, 1) := by decide +kernel
theorem dL_law_1087 : decode cL_law 1087 = .ok (.invokevirtual 124, 3) := by decide +kernel
theorem dL_law_1090 : decode cL_law 1090 = .ok (.aload_n 2, 1) := by decide +kernel
theorem dL_law_1091 : decode cL_law 1091 = .ok (.aload_n 0, 1) := by decide +kernel
theorem dL_law_1092 : decode cL_law 1092 = .ok (.iload_n 3, 1) := by decide +kernel
theorem dL_law_1093 : decode cL_law 1093 = .ok (.iconst 1, 1) := by decide +kernel
theorem dL_law_1094 : decode cL_law 1094 = .ok (.iadd, 1) := by decide +kernel
theorem dL_law_1095 : decode cL_law 1095 = .ok (.iaload, 1) := by decide +kernel
theorem dL_law_1096 : decode cL_law 1096 = .ok (.aload_n 0, 1) := by decide +kernel
theorem dL_law_1097 : decode cL_law 1097 = .ok (.iload_n 3, 1) := by decide +kernel
theorem dL_law_1098 : decode cL_law 1098 = .ok (.iconst 2, 1) := by decide +kernel
theorem dL_law_1099 : decode cL_law 1099 = .ok (.iadd, 1) := by decide +kernel
theorem dL_law_1100 : decode cL_law 1100 = .ok (.iaload, 1) := by decide +kernel
theorem dL_law_1101 : decode cL_law 1101 = .ok (.aload_n 0, 1) := by decide +kernel
theorem dL_law_1102 : decode cL_law 1102 = .ok (.iload_n 3, 1) := by decide +kernel
theorem dL_law_1103 : decode cL_law 1103 = .ok (.iconst 3, 1) := by decide +kernel
theorem dL_law_1104 : decode cL_law 1104 = .ok (.iadd, 1) := by decide +kernel
theorem dL_law_1105 : decode cL_law 1105 = .ok (.iaload, 1) := by decide +kernel
theorem dL_law_1106 : decode cL_law 1106 = .ok (.invokevirtual 127, 3) := by decide +kernel
theorem dL_law_1109 : decode cL_law 1109 = .ok (.if_icmp .eq 5, 3) := by decide +kernel
theorem dL_law_1112 : decode cL_law 1112 = .ok (.iconst 0, 1) := by decide +kernel
theorem dL_law_1113 : decode cL_law 1113 = .ok (.ireturn, 1) := by decide +kernel
theorem dL_law_1114 : decode cL_law 1114 = .ok (.iinc 3 6, 3) := by decide +kernel
theorem dL_law_1117 : decode cL_law 1117 = .ok (.goto (-1099), 3) := by decide +kernel
theorem dL_law_1120 : decode cL_law 1120 = .ok (.iconst 1, 1) := by decide +kernel
theorem dL_law_1121 : decode cL_law 1121 = .ok (.ireturn, 1) := by decide +kernel
end
section
/-! BASE: a state of a system as four families of numbers (int fields, long fields, int arrays, long arrays); a walk's entry, ends and calls over any world predicate I with its addresses A -/
abbrev wS : Type := (Nat → Int32) × (Nat → Int64) × (Nat → Nat → Int32) × (Nat → Nat → Int64)
def sI (σ : wS) (k : Nat) (v : Int32) : wS := (va_up σ.1 k v, σ.2)
def sL (σ : wS) (k : Nat) (v : Int64) : wS := (σ.1, va_up σ.2.1 k v, σ.2.2)
def sAF (σ : wS) (a : Nat) (f : Nat → Int32) : wS := (σ.1, σ.2.1, va_up σ.2.2.1 a f, σ.2.2.2)
def sBF (σ : wS) (a : Nat) (f : Nat → Int64) : wS := (σ.1, σ.2.1, σ.2.2.1, va_up σ.2.2.2 a f)
def sA (σ : wS) (a : Nat) (i : Int32) (v : Int32) : wS := sAF σ a (upd (σ.2.2.1 a) i.toNatClampNeg v)
def sB (σ : wS) (a : Nat) (i : Int32) (v : Int64) : wS := sBF σ a (vp_updL (σ.2.2.2 a) i.toNatClampNeg v)
abbrev aI (σ : wS) (a : Nat) (i : Int32) : Int32 := σ.2.2.1 a i.toNatClampNeg
abbrev aL (σ : wS) (a : Nat) (i : Int32) : Int64 := σ.2.2.2 a i.toNatClampNeg
/-- a boolean's number -/
def isB (v : Int32) : Prop := narrow .boolean (.int v) = .int v
theorem isB0 : isB 0 := rfl
theorem isB1 : isB 1 := rfl
/-- a loop: its body with what the way back asks -/
def wloop {τ : Type} (body : (τ → Prop) → τ → Prop) : Nat → τ → Prop
  | 0, _ => False
  | n + 1, v => body (wloop body n) v
/-- the rule of a loop: an invariant and a measure -/
theorem wloop_of {τ : Type} {body : (τ → Prop) → τ → Prop} (Inv : τ → Prop) (μ : τ → Nat) (hs : ∀ (K : τ → Prop) (v : τ), Inv v → (∀ v', Inv v' → μ v' < μ v → K v') → body K v) (v : τ) (h : Inv v) : ∃ n, wloop body n v := by
  have key : ∀ (n : Nat) (v : τ), Inv v → μ v < n → wloop body n v := by
    intro n
    induction n with
    | zero => intro v _ h2; exact absurd h2 (Nat.not_lt_zero _)
    | succ n ih => intro v h1 h2; exact hs _ v h1 (fun v' h3 h4 => ih v' h3 (by omega))
  exact ⟨μ v + 1, key _ v h (Nat.lt_succ_self _)⟩
abbrev wG : Type := va_G × (Nat → Nat) × ClassId × ClassId
def wMv (I : wS → Heap → State → Prop) : Prop := ∀ (σ : wS) (H : Heap) (s t : State), s.vm.Alike t.vm → I σ H s → I σ H t
section BASE
variable {I : wS → Heap → State → Prop} {A : Nat → Prop} {l : Launch} {y : MethodName} {ws ws' : List Cond} {rm : Room} {cc : ByteArray} {maxL : Nat} {av : List Value} {σ : wS}
theorem gOfI {Q : Int32 → wS → Prop} (hmv : wMv I) (hy : plainName y.cls = true) (hw : ws = Cond.code y cc maxL (some .int) :: ws') (hlen : (lg_sl av).length ≤ maxL)
    (body : ∀ (p : Program) (e : Env) (s : State) (m : MethodId) (args : Array Value) (below : List Frame) (meth : Method) (c : Code) (QQ : State → Prop), p.tables.exec = Jvm.exec → c.code = cc → c.maxLocals = maxL → s.vm.findClass y.cls = some m.cls → (∀ w ∈ ws, w.before args s = true) →
      (∀ (v : Int32) (σ' : wS) (H : Heap) (locs : List Loc) (ls : Array Slot) (pc : Nat), decode cc pc = .ok (.ireturn, 1) → Q v σ' → I σ' H s → va_S A s.heap H locs → W p l e rm s m args below meth c H locs 0 0 QQ (F0 m pc ls [.int v])) →
      ∀ ls : Array Slot, lv_has ls maxL (lv_args 0 av) → I σ s.heap s → W p l e rm s m args below meth c s.heap [] 0 0 QQ (F0 m 0 ls [])) :
    Met l y ws rm (va_Pc av (fun U => I σ U.heap U)) (va_Qi Q (fun σ' t => I σ' t.heap t) A) 0 0 A := by
  refine Met.ofW (cc := cc) (maxL := maxL) (ret := some .int) hy hw ?_
  intro p e s m args below meth c s₁ B hml hv
  obtain ⟨rfl, hI⟩ := hv
  have hlocks := B.notSynchronized
  rw [lg_entry_eq]
  refine body p e s m _ below meth c _ B.exec B.bytes hml (findClass_of_methodNamed B.named) (atoms_spec (ws := ws) B.pre) ?_ _ (lv_entry av hlen) hI
  intro v σ' H locs ls pc hdg hQ hI' hS
  exact W.iret (v := v) B.exec B.bytes B.returns (fun t ht hW => ⟨⟨v, σ', rfl, hQ, by rw [ht]; exact hmv _ _ _ _ hW.alike hI'⟩, hS.F ht⟩) hS.2.2 hdg
theorem gOfZ {Q : Int32 → wS → Prop} (hmv : wMv I) (hy : plainName y.cls = true) (hw : ws = Cond.code y cc maxL (some .boolean) :: ws') (hlen : (lg_sl av).length ≤ maxL)
    (body : ∀ (p : Program) (e : Env) (s : State) (m : MethodId) (args : Array Value) (below : List Frame) (meth : Method) (c : Code) (QQ : State → Prop), p.tables.exec = Jvm.exec → c.code = cc → c.maxLocals = maxL → s.vm.findClass y.cls = some m.cls → (∀ w ∈ ws, w.before args s = true) →
      (∀ (v : Int32) (σ' : wS) (H : Heap) (locs : List Loc) (ls : Array Slot) (pc : Nat), decode cc pc = .ok (.ireturn, 1) → isB v → Q v σ' → I σ' H s → va_S A s.heap H locs → W p l e rm s m args below meth c H locs 0 0 QQ (F0 m pc ls [.int v])) →
      ∀ ls : Array Slot, lv_has ls maxL (lv_args 0 av) → I σ s.heap s → W p l e rm s m args below meth c s.heap [] 0 0 QQ (F0 m 0 ls [])) :
    Met l y ws rm (va_Pc av (fun U => I σ U.heap U)) (va_Qi Q (fun σ' t => I σ' t.heap t) A) 0 0 A := by
  refine Met.ofW (cc := cc) (maxL := maxL) (ret := some .boolean) hy hw ?_
  intro p e s m args below meth c s₁ B hml hv
  obtain ⟨rfl, hI⟩ := hv
  have hlocks := B.notSynchronized
  rw [lg_entry_eq]
  refine body p e s m _ below meth c _ B.exec B.bytes hml (findClass_of_methodNamed B.named) (atoms_spec (ws := ws) B.pre) ?_ _ (lv_entry av hlen) hI
  intro v σ' H locs ls pc hdg hz hQ hI' hS
  exact W.zret (v := v) (ty := .boolean) B.exec B.bytes B.returns hz (fun t ht hW => ⟨⟨v, σ', rfl, hQ, by rw [ht]; exact hmv _ _ _ _ hW.alike hI'⟩, hS.F ht⟩) hS.2.2 hdg
theorem gOfL {Q : Int64 → wS → Prop} (hmv : wMv I) (hy : plainName y.cls = true) (hw : ws = Cond.code y cc maxL (some .long) :: ws') (hlen : (lg_sl av).length ≤ maxL)
    (body : ∀ (p : Program) (e : Env) (s : State) (m : MethodId) (args : Array Value) (below : List Frame) (meth : Method) (c : Code) (QQ : State → Prop), p.tables.exec = Jvm.exec → c.code = cc → c.maxLocals = maxL → s.vm.findClass y.cls = some m.cls → (∀ w ∈ ws, w.before args s = true) →
      (∀ (v : Int64) (σ' : wS) (H : Heap) (locs : List Loc) (ls : Array Slot) (pc : Nat), decode cc pc = .ok (.lreturn, 1) → Q v σ' → I σ' H s → va_S A s.heap H locs → W p l e rm s m args below meth c H locs 0 0 QQ (F0 m pc ls [.long v])) →
      ∀ ls : Array Slot, lv_has ls maxL (lv_args 0 av) → I σ s.heap s → W p l e rm s m args below meth c s.heap [] 0 0 QQ (F0 m 0 ls [])) :
    Met l y ws rm (va_Pc av (fun U => I σ U.heap U)) (va_Ql Q (fun σ' t => I σ' t.heap t) A) 0 0 A := by
  refine Met.ofW (cc := cc) (maxL := maxL) (ret := some .long) hy hw ?_
  intro p e s m args below meth c s₁ B hml hv
  obtain ⟨rfl, hI⟩ := hv
  have hlocks := B.notSynchronized
  rw [lg_entry_eq]
  refine body p e s m _ below meth c _ B.exec B.bytes hml (findClass_of_methodNamed B.named) (atoms_spec (ws := ws) B.pre) ?_ _ (lv_entry av hlen) hI
  intro v σ' H locs ls pc hdg hQ hI' hS
  exact W.lret (v := v) B.exec B.bytes B.returns (fun t ht hW => ⟨⟨v, σ', rfl, hQ, by rw [ht]; exact hmv _ _ _ _ hW.alike hI'⟩, hS.F ht⟩) hS.2.2 hdg
theorem gOfV {Q : wS → Prop} (hmv : wMv I) (hy : plainName y.cls = true) (hw : ws = Cond.code y cc maxL none :: ws') (hlen : (lg_sl av).length ≤ maxL)
    (body : ∀ (p : Program) (e : Env) (s : State) (m : MethodId) (args : Array Value) (below : List Frame) (meth : Method) (c : Code) (QQ : State → Prop), p.tables.exec = Jvm.exec → c.code = cc → c.maxLocals = maxL → s.vm.findClass y.cls = some m.cls → (∀ w ∈ ws, w.before args s = true) →
      (∀ (σ' : wS) (H : Heap) (locs : List Loc) (ls : Array Slot) (pc : Nat), decode cc pc = .ok (.return_, 1) → Q σ' → I σ' H s → va_S A s.heap H locs → W p l e rm s m args below meth c H locs 0 0 QQ (F0 m pc ls [])) →
      ∀ ls : Array Slot, lv_has ls maxL (lv_args 0 av) → I σ s.heap s → W p l e rm s m args below meth c s.heap [] 0 0 QQ (F0 m 0 ls [])) :
    Met l y ws rm (va_Pc av (fun U => I σ U.heap U)) (va_Qv Q (fun σ' t => I σ' t.heap t) A) 0 0 A := by
  refine Met.ofW (cc := cc) (maxL := maxL) (ret := none) hy hw ?_
  intro p e s m args below meth c s₁ B hml hv
  obtain ⟨rfl, hI⟩ := hv
  have hlocks := B.notSynchronized
  rw [lg_entry_eq]
  refine body p e s m _ below meth c _ B.exec B.bytes hml (findClass_of_methodNamed B.named) (atoms_spec (ws := ws) B.pre) ?_ _ (lv_entry av hlen) hI
  intro σ' H locs ls pc hdg hQ hI' hS
  exact W.vret B.exec B.bytes B.returns (fun t ht hW => ⟨⟨σ', rfl, hQ, by rw [ht]; exact hmv _ _ _ _ hW.alike hI'⟩, hS.F ht⟩) hS.2.2 hdg
end BASE
section CALLS
variable {p : Program} {l : Launch} {e : Env} {R : Room} {s : State} {m : MethodId} {args : Array Value} {below : List Frame} {meth : Method} {c : Code} {H : Heap} {locs : List Loc} {QQ : State → Prop}
variable {I : wS → Heap → State → Prop} {A : Nat → Prop} {y : MethodName} {ws : List Cond} {rm : Room} {bytes cc : ByteArray} {maxL nL n index pc : Nat} {ret : Option FieldType} {Ts : List Cond} {own C : String} {b : Addr} {As rest st : List Value} {ls : Array Slot} {σ : wS}
theorem gPc (hmv : wMv I) (av : List Value) : FrameBlind (va_Pc av (fun U => I σ U.heap U)) := fun a U g mk q => by
  obtain ⟨q0, q1⟩ := q
  exact ⟨q0, hmv _ _ U (U.calling g mk a) (Vm.Alike.refl U.vm) q1⟩
theorem gPreV (hmv : wMv I) (hI : I σ H s) (hrecv : ∃ cellB : Cell, H[b]? = some cellB ∧ cellB.vm.isStatics = false ∧ s.vm.findClass C = some cellB.cls) : PreV s H C b (va_Pc (.ref b :: As) (fun U => I σ U.heap U)) As :=
  ⟨gPc hmv _, hrecv, fun U hU hW => ⟨rfl, by rw [hU]; exact hmv _ _ _ _ hW.alike hI⟩⟩
theorem gPreS (hmv : wMv I) (hI : I σ H s) : PreS s H (va_Pc As (fun U => I σ U.heap U)) As :=
  ⟨gPc hmv _, fun U hU hW => ⟨rfl, by rw [hU]; exact hmv _ _ _ _ hW.alike hI⟩⟩
theorem gVi {Qp : Int32 → wS → Prop} (hM : Met l y ws rm (va_Pc (.ref b :: As) (fun U => I σ U.heap U)) (va_Qi Qp (fun σ' t => I σ' t.heap t) A) 0 0 A) (hmv : wMv I) (S : CallFix p m c cc nL s args Ts own) (cw : CallW R s args own C index y bytes maxL ret ws rm 0 0 n)
    (hrecv : ∃ cellB : Cell, H[b]? = some cellB ∧ cellB.vm.isStatics = false ∧ s.vm.findClass C = some cellB.cls) (hI : I σ H s) (hS : va_S A s.heap H locs) (hl : ls.size = nL) (hn : As.length = n) (hst : st = As.reverse ++ .ref b :: rest) (hW : (rest.map fun v => v.category).sum ≤ 8) (hdg : decode cc pc = .ok (.invokevirtual index, 3))
    (kk : ∀ (r : Int32) (σ' : wS) (H : Heap) (locs : List Loc), Qp r σ' → I σ' H s → va_S A s.heap H locs → W p l e R s m args below meth c H locs 0 0 QQ (F0 m (pc + 3) ls (.int r :: rest))) : W p l e R s m args below meth c H locs 0 0 QQ (F0 m pc ls st) :=
  va_calli (va_runV (As := As) (rest := rest) S hM cw (gPreV hmv hI hrecv) rfl hn hl hst (lv_room hW) hdg ⟨Nat.zero_le _, Nat.zero_le _⟩) hS (fun _ _ h => h) (fun _ h => h) (fun r u t H1 locs1 ht hvm hq hB _ _ hS1 => kk r u H1 locs1 hq (by have hB : I u t.heap t := hB; rw [ht] at hB; exact hmv _ _ _ _ hvm.symm hB) hS1)
theorem gVl {Qp : Int64 → wS → Prop} (hM : Met l y ws rm (va_Pc (.ref b :: As) (fun U => I σ U.heap U)) (va_Ql Qp (fun σ' t => I σ' t.heap t) A) 0 0 A) (hmv : wMv I) (S : CallFix p m c cc nL s args Ts own) (cw : CallW R s args own C index y bytes maxL ret ws rm 0 0 n)
    (hrecv : ∃ cellB : Cell, H[b]? = some cellB ∧ cellB.vm.isStatics = false ∧ s.vm.findClass C = some cellB.cls) (hI : I σ H s) (hS : va_S A s.heap H locs) (hl : ls.size = nL) (hn : As.length = n) (hst : st = As.reverse ++ .ref b :: rest) (hW : (rest.map fun v => v.category).sum ≤ 8) (hdg : decode cc pc = .ok (.invokevirtual index, 3))
    (kk : ∀ (r : Int64) (σ' : wS) (H : Heap) (locs : List Loc), Qp r σ' → I σ' H s → va_S A s.heap H locs → W p l e R s m args below meth c H locs 0 0 QQ (F0 m (pc + 3) ls (.long r :: rest))) : W p l e R s m args below meth c H locs 0 0 QQ (F0 m pc ls st) :=
  va_calll (va_runV (As := As) (rest := rest) S hM cw (gPreV hmv hI hrecv) rfl hn hl hst (lv_room hW) hdg ⟨Nat.zero_le _, Nat.zero_le _⟩) hS (fun _ _ h => h) (fun _ h => h) (fun r u t H1 locs1 ht hvm hq hB _ _ hS1 => kk r u H1 locs1 hq (by have hB : I u t.heap t := hB; rw [ht] at hB; exact hmv _ _ _ _ hvm.symm hB) hS1)
theorem gVv {Qp : wS → Prop} (hM : Met l y ws rm (va_Pc (.ref b :: As) (fun U => I σ U.heap U)) (va_Qv Qp (fun σ' t => I σ' t.heap t) A) 0 0 A) (hmv : wMv I) (S : CallFix p m c cc nL s args Ts own) (cw : CallW R s args own C index y bytes maxL ret ws rm 0 0 n)
    (hrecv : ∃ cellB : Cell, H[b]? = some cellB ∧ cellB.vm.isStatics = false ∧ s.vm.findClass C = some cellB.cls) (hI : I σ H s) (hS : va_S A s.heap H locs) (hl : ls.size = nL) (hn : As.length = n) (hst : st = As.reverse ++ .ref b :: rest) (hW : (rest.map fun v => v.category).sum ≤ 8) (hdg : decode cc pc = .ok (.invokevirtual index, 3))
    (kk : ∀ (σ' : wS) (H : Heap) (locs : List Loc), Qp σ' → I σ' H s → va_S A s.heap H locs → W p l e R s m args below meth c H locs 0 0 QQ (F0 m (pc + 3) ls rest)) : W p l e R s m args below meth c H locs 0 0 QQ (F0 m pc ls st) :=
  va_callv (va_runV (As := As) (rest := rest) S hM cw (gPreV hmv hI hrecv) rfl hn hl hst (lv_room hW) hdg ⟨Nat.zero_le _, Nat.zero_le _⟩) hS (fun _ _ h => h) (fun _ h => h) (fun u t H1 locs1 ht hvm hq hB _ _ hS1 => kk u H1 locs1 hq (by have hB : I u t.heap t := hB; rw [ht] at hB; exact hmv _ _ _ _ hvm.symm hB) hS1)
theorem gSi {Qp : Int32 → wS → Prop} (hM : Met l y ws rm (va_Pc As (fun U => I σ U.heap U)) (va_Qi Qp (fun σ' t => I σ' t.heap t) A) 0 0 A) (hmv : wMv I) (S : CallFix p m c cc nL s args Ts own) (cw : CallB R s args own index y bytes maxL ret ws rm 0 0 n ∧ (Cond.static y).before args s = true)
    (hI : I σ H s) (hS : va_S A s.heap H locs) (hl : ls.size = nL) (hn : As.length = n) (hst : st = As.reverse ++ rest) (hW : (rest.map fun v => v.category).sum ≤ 8) (hdg : decode cc pc = .ok (.invokestatic index, 3))
    (kk : ∀ (r : Int32) (σ' : wS) (H : Heap) (locs : List Loc), Qp r σ' → I σ' H s → va_S A s.heap H locs → W p l e R s m args below meth c H locs 0 0 QQ (F0 m (pc + 3) ls (.int r :: rest))) : W p l e R s m args below meth c H locs 0 0 QQ (F0 m pc ls st) :=
  va_calli (va_runS (As := As) (rest := rest) S hM cw (gPreS hmv hI) rfl hn hl hst (lv_room hW) hdg ⟨Nat.zero_le _, Nat.zero_le _⟩) hS (fun _ _ h => h) (fun _ h => h) (fun r u t H1 locs1 ht hvm hq hB _ _ hS1 => kk r u H1 locs1 hq (by have hB : I u t.heap t := hB; rw [ht] at hB; exact hmv _ _ _ _ hvm.symm hB) hS1)
theorem gSl {Qp : Int64 → wS → Prop} (hM : Met l y ws rm (va_Pc As (fun U => I σ U.heap U)) (va_Ql Qp (fun σ' t => I σ' t.heap t) A) 0 0 A) (hmv : wMv I) (S : CallFix p m c cc nL s args Ts own) (cw : CallB R s args own index y bytes maxL ret ws rm 0 0 n ∧ (Cond.static y).before args s = true)
    (hI : I σ H s) (hS : va_S A s.heap H locs) (hl : ls.size = nL) (hn : As.length = n) (hst : st = As.reverse ++ rest) (hW : (rest.map fun v => v.category).sum ≤ 8) (hdg : decode cc pc = .ok (.invokestatic index, 3))
    (kk : ∀ (r : Int64) (σ' : wS) (H : Heap) (locs : List Loc), Qp r σ' → I σ' H s → va_S A s.heap H locs → W p l e R s m args below meth c H locs 0 0 QQ (F0 m (pc + 3) ls (.long r :: rest))) : W p l e R s m args below meth c H locs 0 0 QQ (F0 m pc ls st) :=
  va_calll (va_runS (As := As) (rest := rest) S hM cw (gPreS hmv hI) rfl hn hl hst (lv_room hW) hdg ⟨Nat.zero_le _, Nat.zero_le _⟩) hS (fun _ _ h => h) (fun _ h => h) (fun r u t H1 locs1 ht hvm hq hB _ _ hS1 => kk r u H1 locs1 hq (by have hB : I u t.heap t := hB; rw [ht] at hB; exact hmv _ _ _ _ hvm.symm hB) hS1)
theorem gSv {Qp : wS → Prop} (hM : Met l y ws rm (va_Pc As (fun U => I σ U.heap U)) (va_Qv Qp (fun σ' t => I σ' t.heap t) A) 0 0 A) (hmv : wMv I) (S : CallFix p m c cc nL s args Ts own) (cw : CallB R s args own index y bytes maxL ret ws rm 0 0 n ∧ (Cond.static y).before args s = true)
    (hI : I σ H s) (hS : va_S A s.heap H locs) (hl : ls.size = nL) (hn : As.length = n) (hst : st = As.reverse ++ rest) (hW : (rest.map fun v => v.category).sum ≤ 8) (hdg : decode cc pc = .ok (.invokestatic index, 3))
    (kk : ∀ (σ' : wS) (H : Heap) (locs : List Loc), Qp σ' → I σ' H s → va_S A s.heap H locs → W p l e R s m args below meth c H locs 0 0 QQ (F0 m (pc + 3) ls rest)) : W p l e R s m args below meth c H locs 0 0 QQ (F0 m pc ls st) :=
  va_callv (va_runS (As := As) (rest := rest) S hM cw (gPreS hmv hI) rfl hn hl hst (lv_room hW) hdg ⟨Nat.zero_le _, Nat.zero_le _⟩) hS (fun _ _ h => h) (fun _ h => h) (fun u t H1 locs1 ht hvm hq hB _ _ hS1 => kk u H1 locs1 hq (by have hB : I u t.heap t := hB; rw [ht] at hB; exact hmv _ _ _ _ hvm.symm hB) hS1)
end CALLS
end
section
theorem zz_last : True := trivial
end

-- ===== PART A: goes FIRST, ahead of the names: the tables' words, and 'selects' of the private methods out of them =====
/-- a private method of a class that the tables say can be made, by its rows of tables_1 -/
def lw_okq (q : MethodName × Nat) : Prop := (q.1.cls ≠ "java/lang/invoke/MethodHandle" ∧ q.1.cls ≠ "java/lang/invoke/VarHandle") ∧ Cond.instantiable q.1.cls q.2 ∈ tables_1 ∧ Cond.privateMethod q.1 ∈ tables_1 ∧ Cond.instanceMethod q.1 ∈ tables_1
theorem lw_p0 : lw_okq (⟨"CourseHouse", "refuse", "(I)I"⟩, 14) := ⟨⟨by decide +kernel, by decide +kernel⟩, List.mem_of_getElem? (i := 13) (by decide +kernel), List.mem_of_getElem? (i := 267) (by decide +kernel), List.mem_of_getElem? (i := 268) (by decide +kernel)⟩
theorem lw_p1 : lw_okq (⟨"CourseHouse", "isPupil", "(I)Z"⟩, 14) := ⟨⟨by decide +kernel, by decide +kernel⟩, List.mem_of_getElem? (i := 13) (by decide +kernel), List.mem_of_getElem? (i := 275) (by decide +kernel), List.mem_of_getElem? (i := 276) (by decide +kernel)⟩
theorem lw_p2 : lw_okq (⟨"CourseHouse", "workAt", "(I)LCourseHouse$Work;"⟩, 14) := ⟨⟨by decide +kernel, by decide +kernel⟩, List.mem_of_getElem? (i := 13) (by decide +kernel), List.mem_of_getElem? (i := 284) (by decide +kernel), List.mem_of_getElem? (i := 285) (by decide +kernel)⟩
theorem lw_p3 : lw_okq (⟨"CourseHouse", "sheetOf", "(II)LCourseHouse$Sheet;"⟩, 14) := ⟨⟨by decide +kernel, by decide +kernel⟩, List.mem_of_getElem? (i := 13) (by decide +kernel), List.mem_of_getElem? (i := 292) (by decide +kernel), List.mem_of_getElem? (i := 293) (by decide +kernel)⟩
theorem lw_p4 : lw_okq (⟨"CourseHouse$Reader", "part", "(I)V"⟩, 10) := ⟨⟨by decide +kernel, by decide +kernel⟩, List.mem_of_getElem? (i := 25) (by decide +kernel), List.mem_of_getElem? (i := 320) (by decide +kernel), List.mem_of_getElem? (i := 321) (by decide +kernel)⟩
theorem lw_p5 : lw_okq (⟨"CourseHouse$Reader", "kindAt", "(I)I"⟩, 10) := ⟨⟨by decide +kernel, by decide +kernel⟩, List.mem_of_getElem? (i := 25) (by decide +kernel), List.mem_of_getElem? (i := 324) (by decide +kernel), List.mem_of_getElem? (i := 325) (by decide +kernel)⟩
theorem lw_p6 : lw_okq (⟨"CourseHouse$Reader", "putWord", "(IIII)V"⟩, 10) := ⟨⟨by decide +kernel, by decide +kernel⟩, List.mem_of_getElem? (i := 25) (by decide +kernel), List.mem_of_getElem? (i := 328) (by decide +kernel), List.mem_of_getElem? (i := 329) (by decide +kernel)⟩
theorem lw_p7 : lw_okq (⟨"CourseHouse$Reader", "turnTo", "(I)V"⟩, 10) := ⟨⟨by decide +kernel, by decide +kernel⟩, List.mem_of_getElem? (i := 25) (by decide +kernel), List.mem_of_getElem? (i := 336) (by decide +kernel), List.mem_of_getElem? (i := 337) (by decide +kernel)⟩
theorem lw_p8 : lw_okq (⟨"CourseHouse$Reader", "fail", "()V"⟩, 10) := ⟨⟨by decide +kernel, by decide +kernel⟩, List.mem_of_getElem? (i := 25) (by decide +kernel), List.mem_of_getElem? (i := 350) (by decide +kernel), List.mem_of_getElem? (i := 351) (by decide +kernel)⟩
theorem lw_p9 : lw_okq (⟨"CourseHouse$Reader", "take", "(I)V"⟩, 10) := ⟨⟨by decide +kernel, by decide +kernel⟩, List.mem_of_getElem? (i := 25) (by decide +kernel), List.mem_of_getElem? (i := 354) (by decide +kernel), List.mem_of_getElem? (i := 355) (by decide +kernel)⟩
theorem lw_p10 : lw_okq (⟨"CourseHouse$Reader", "readSum", "(I)V"⟩, 10) := ⟨⟨by decide +kernel, by decide +kernel⟩, List.mem_of_getElem? (i := 25) (by decide +kernel), List.mem_of_getElem? (i := 358) (by decide +kernel), List.mem_of_getElem? (i := 359) (by decide +kernel)⟩
theorem lw_p11 : lw_okq (⟨"CourseHouse$Reader", "readProduct", "(I)V"⟩, 10) := ⟨⟨by decide +kernel, by decide +kernel⟩, List.mem_of_getElem? (i := 25) (by decide +kernel), List.mem_of_getElem? (i := 362) (by decide +kernel), List.mem_of_getElem? (i := 363) (by decide +kernel)⟩
theorem lw_p12 : lw_okq (⟨"CourseHouse$Reader", "readPart", "(I)V"⟩, 10) := ⟨⟨by decide +kernel, by decide +kernel⟩, List.mem_of_getElem? (i := 25) (by decide +kernel), List.mem_of_getElem? (i := 366) (by decide +kernel), List.mem_of_getElem? (i := 367) (by decide +kernel)⟩
theorem lw_p13 : lw_okq (⟨"CourseHouse$Reader", "readCall", "(II)V"⟩, 10) := ⟨⟨by decide +kernel, by decide +kernel⟩, List.mem_of_getElem? (i := 25) (by decide +kernel), List.mem_of_getElem? (i := 378) (by decide +kernel), List.mem_of_getElem? (i := 379) (by decide +kernel)⟩
theorem lw_p14 : lw_okq (⟨"CourseHouse$Reader", "open", "(I)V"⟩, 10) := ⟨⟨by decide +kernel, by decide +kernel⟩, List.mem_of_getElem? (i := 25) (by decide +kernel), List.mem_of_getElem? (i := 382) (by decide +kernel), List.mem_of_getElem? (i := 383) (by decide +kernel)⟩
theorem lw_p15 : lw_okq (⟨"CourseHouse", "refuseText", "(I)I"⟩, 14) := ⟨⟨by decide +kernel, by decide +kernel⟩, List.mem_of_getElem? (i := 13) (by decide +kernel), List.mem_of_getElem? (i := 386) (by decide +kernel), List.mem_of_getElem? (i := 387) (by decide +kernel)⟩
def lw_privs_1 : List (MethodName × Nat) := [(⟨"CourseHouse", "refuse", "(I)I"⟩, 14), (⟨"CourseHouse", "isPupil", "(I)Z"⟩, 14), (⟨"CourseHouse", "workAt", "(I)LCourseHouse$Work;"⟩, 14), (⟨"CourseHouse", "sheetOf", "(II)LCourseHouse$Sheet;"⟩, 14), (⟨"CourseHouse$Reader", "part", "(I)V"⟩, 10), (⟨"CourseHouse$Reader", "kindAt", "(I)I"⟩, 10), (⟨"CourseHouse$Reader", "putWord", "(IIII)V"⟩, 10), (⟨"CourseHouse$Reader", "turnTo", "(I)V"⟩, 10), (⟨"CourseHouse$Reader", "fail", "()V"⟩, 10), (⟨"CourseHouse$Reader", "take", "(I)V"⟩, 10), (⟨"CourseHouse$Reader", "readSum", "(I)V"⟩, 10), (⟨"CourseHouse$Reader", "readProduct", "(I)V"⟩, 10), (⟨"CourseHouse$Reader", "readPart", "(I)V"⟩, 10), (⟨"CourseHouse$Reader", "readCall", "(II)V"⟩, 10), (⟨"CourseHouse$Reader", "open", "(I)V"⟩, 10), (⟨"CourseHouse", "refuseText", "(I)I"⟩, 14)]
theorem lw_r1 : ∀ q ∈ lw_privs_1, lw_okq q := List.forall_mem_cons.mpr ⟨lw_p0, List.forall_mem_cons.mpr ⟨lw_p1, List.forall_mem_cons.mpr ⟨lw_p2, List.forall_mem_cons.mpr ⟨lw_p3, List.forall_mem_cons.mpr ⟨lw_p4, List.forall_mem_cons.mpr ⟨lw_p5, List.forall_mem_cons.mpr ⟨lw_p6, List.forall_mem_cons.mpr ⟨lw_p7, List.forall_mem_cons.mpr ⟨lw_p8, List.forall_mem_cons.mpr ⟨lw_p9, List.forall_mem_cons.mpr ⟨lw_p10, List.forall_mem_cons.mpr ⟨lw_p11, List.forall_mem_cons.mpr ⟨lw_p12, List.forall_mem_cons.mpr ⟨lw_p13, List.forall_mem_cons.mpr ⟨lw_p14, List.forall_mem_cons.mpr ⟨lw_p15, fun _ h => absurd h List.not_mem_nil⟩⟩⟩⟩⟩⟩⟩⟩⟩⟩⟩⟩⟩⟩⟩⟩
theorem lw_p16 : lw_okq (⟨"CourseHouse$Book", "placeOf", "(II)I"⟩, 12) := ⟨⟨by decide +kernel, by decide +kernel⟩, List.mem_of_getElem? (i := 31) (by decide +kernel), List.mem_of_getElem? (i := 394) (by decide +kernel), List.mem_of_getElem? (i := 395) (by decide +kernel)⟩
theorem lw_p17 : lw_okq (⟨"CourseHouse", "hasRing", "(LCourseHouse$Book;)Z"⟩, 14) := ⟨⟨by decide +kernel, by decide +kernel⟩, List.mem_of_getElem? (i := 13) (by decide +kernel), List.mem_of_getElem? (i := 406) (by decide +kernel), List.mem_of_getElem? (i := 407) (by decide +kernel)⟩
theorem lw_p18 : lw_okq (⟨"CourseHouse", "under", "(LCourseHouse$Book;I)I"⟩, 14) := ⟨⟨by decide +kernel, by decide +kernel⟩, List.mem_of_getElem? (i := 13) (by decide +kernel), List.mem_of_getElem? (i := 410) (by decide +kernel), List.mem_of_getElem? (i := 411) (by decide +kernel)⟩
theorem lw_p19 : lw_okq (⟨"CourseHouse", "needsBeyond", "(I)Z"⟩, 14) := ⟨⟨by decide +kernel, by decide +kernel⟩, List.mem_of_getElem? (i := 13) (by decide +kernel), List.mem_of_getElem? (i := 421) (by decide +kernel), List.mem_of_getElem? (i := 422) (by decide +kernel)⟩
theorem lw_p20 : lw_okq (⟨"CourseHouse$Book", "withBelow", "(I)I"⟩, 12) := ⟨⟨by decide +kernel, by decide +kernel⟩, List.mem_of_getElem? (i := 31) (by decide +kernel), List.mem_of_getElem? (i := 429) (by decide +kernel), List.mem_of_getElem? (i := 430) (by decide +kernel)⟩
theorem lw_p21 : lw_okq (⟨"CourseHouse", "lessens", "(LCourseHouse$Book;)Z"⟩, 14) := ⟨⟨by decide +kernel, by decide +kernel⟩, List.mem_of_getElem? (i := 13) (by decide +kernel), List.mem_of_getElem? (i := 438) (by decide +kernel), List.mem_of_getElem? (i := 439) (by decide +kernel)⟩
theorem lw_p22 : lw_okq (⟨"CourseHouse", "load", "(I)V"⟩, 14) := ⟨⟨by decide +kernel, by decide +kernel⟩, List.mem_of_getElem? (i := 13) (by decide +kernel), List.mem_of_getElem? (i := 442) (by decide +kernel), List.mem_of_getElem? (i := 443) (by decide +kernel)⟩
theorem lw_p23 : lw_okq (⟨"CourseHouse$Sheet", "shownWorth", "(LCourseHouse$Work;)J"⟩, 7) := ⟨⟨by decide +kernel, by decide +kernel⟩, List.mem_of_getElem? (i := 185) (by decide +kernel), List.mem_of_getElem? (i := 450) (by decide +kernel), List.mem_of_getElem? (i := 451) (by decide +kernel)⟩
theorem lw_p24 : lw_okq (⟨"CourseHouse$Reckoner", "run", "(LCourseHouse$Book;I)J"⟩, 9) := ⟨⟨by decide +kernel, by decide +kernel⟩, List.mem_of_getElem? (i := 119) (by decide +kernel), List.mem_of_getElem? (i := 496) (by decide +kernel), List.mem_of_getElem? (i := 497) (by decide +kernel)⟩
theorem lw_p25 : lw_okq (⟨"CourseHouse$Reckoner", "ofList", "(IIII)J"⟩, 9) := ⟨⟨by decide +kernel, by decide +kernel⟩, List.mem_of_getElem? (i := 119) (by decide +kernel), List.mem_of_getElem? (i := 549) (by decide +kernel), List.mem_of_getElem? (i := 550) (by decide +kernel)⟩
theorem lw_p26 : lw_okq (⟨"CourseHouse$Reckoner", "sortDown", "(II)V"⟩, 9) := ⟨⟨by decide +kernel, by decide +kernel⟩, List.mem_of_getElem? (i := 119) (by decide +kernel), List.mem_of_getElem? (i := 553) (by decide +kernel), List.mem_of_getElem? (i := 554) (by decide +kernel)⟩
theorem lw_p27 : lw_okq (⟨"CourseHouse", "isRule", "(I)Z"⟩, 14) := ⟨⟨by decide +kernel, by decide +kernel⟩, List.mem_of_getElem? (i := 13) (by decide +kernel), List.mem_of_getElem? (i := 586) (by decide +kernel), List.mem_of_getElem? (i := 587) (by decide +kernel)⟩
theorem lw_p28 : lw_okq (⟨"CourseHouse", "isOpen", "(ILCourseHouse$Work;)Z"⟩, 14) := ⟨⟨by decide +kernel, by decide +kernel⟩, List.mem_of_getElem? (i := 13) (by decide +kernel), List.mem_of_getElem? (i := 602) (by decide +kernel), List.mem_of_getElem? (i := 603) (by decide +kernel)⟩
theorem lw_p29 : lw_okq (⟨"CourseHouse", "handGrouped", "(II)I"⟩, 14) := ⟨⟨by decide +kernel, by decide +kernel⟩, List.mem_of_getElem? (i := 13) (by decide +kernel), List.mem_of_getElem? (i := 635) (by decide +kernel), List.mem_of_getElem? (i := 636) (by decide +kernel)⟩
theorem lw_p30 : lw_okq (⟨"CourseHouse", "inGroup", "(II)Z"⟩, 14) := ⟨⟨by decide +kernel, by decide +kernel⟩, List.mem_of_getElem? (i := 13) (by decide +kernel), List.mem_of_getElem? (i := 639) (by decide +kernel), List.mem_of_getElem? (i := 640) (by decide +kernel)⟩
theorem lw_p31 : lw_okq (⟨"CourseHouse", "markGrouped", "(LCourseHouse$Sheet;II)I"⟩, 14) := ⟨⟨by decide +kernel, by decide +kernel⟩, List.mem_of_getElem? (i := 13) (by decide +kernel), List.mem_of_getElem? (i := 656) (by decide +kernel), List.mem_of_getElem? (i := 657) (by decide +kernel)⟩
def lw_privs_2 : List (MethodName × Nat) := [(⟨"CourseHouse$Book", "placeOf", "(II)I"⟩, 12), (⟨"CourseHouse", "hasRing", "(LCourseHouse$Book;)Z"⟩, 14), (⟨"CourseHouse", "under", "(LCourseHouse$Book;I)I"⟩, 14), (⟨"CourseHouse", "needsBeyond", "(I)Z"⟩, 14), (⟨"CourseHouse$Book", "withBelow", "(I)I"⟩, 12), (⟨"CourseHouse", "lessens", "(LCourseHouse$Book;)Z"⟩, 14), (⟨"CourseHouse", "load", "(I)V"⟩, 14), (⟨"CourseHouse$Sheet", "shownWorth", "(LCourseHouse$Work;)J"⟩, 7), (⟨"CourseHouse$Reckoner", "run", "(LCourseHouse$Book;I)J"⟩, 9), (⟨"CourseHouse$Reckoner", "ofList", "(IIII)J"⟩, 9), (⟨"CourseHouse$Reckoner", "sortDown", "(II)V"⟩, 9), (⟨"CourseHouse", "isRule", "(I)Z"⟩, 14), (⟨"CourseHouse", "isOpen", "(ILCourseHouse$Work;)Z"⟩, 14), (⟨"CourseHouse", "handGrouped", "(II)I"⟩, 14), (⟨"CourseHouse", "inGroup", "(II)Z"⟩, 14), (⟨"CourseHouse", "markGrouped", "(LCourseHouse$Sheet;II)I"⟩, 14)]
theorem lw_r2 : ∀ q ∈ lw_privs_2, lw_okq q := List.forall_mem_cons.mpr ⟨lw_p16, List.forall_mem_cons.mpr ⟨lw_p17, List.forall_mem_cons.mpr ⟨lw_p18, List.forall_mem_cons.mpr ⟨lw_p19, List.forall_mem_cons.mpr ⟨lw_p20, List.forall_mem_cons.mpr ⟨lw_p21, List.forall_mem_cons.mpr ⟨lw_p22, List.forall_mem_cons.mpr ⟨lw_p23, List.forall_mem_cons.mpr ⟨lw_p24, List.forall_mem_cons.mpr ⟨lw_p25, List.forall_mem_cons.mpr ⟨lw_p26, List.forall_mem_cons.mpr ⟨lw_p27, List.forall_mem_cons.mpr ⟨lw_p28, List.forall_mem_cons.mpr ⟨lw_p29, List.forall_mem_cons.mpr ⟨lw_p30, List.forall_mem_cons.mpr ⟨lw_p31, fun _ h => absurd h List.not_mem_nil⟩⟩⟩⟩⟩⟩⟩⟩⟩⟩⟩⟩⟩⟩⟩⟩
theorem lw_p32 : lw_okq (⟨"CourseHouse", "peerOf", "(III)I"⟩, 14) := ⟨⟨by decide +kernel, by decide +kernel⟩, List.mem_of_getElem? (i := 13) (by decide +kernel), List.mem_of_getElem? (i := 670) (by decide +kernel), List.mem_of_getElem? (i := 671) (by decide +kernel)⟩
theorem lw_p33 : lw_okq (⟨"CourseHouse", "isPeer", "(III)Z"⟩, 14) := ⟨⟨by decide +kernel, by decide +kernel⟩, List.mem_of_getElem? (i := 13) (by decide +kernel), List.mem_of_getElem? (i := 678) (by decide +kernel), List.mem_of_getElem? (i := 679) (by decide +kernel)⟩
theorem lw_p34 : lw_okq (⟨"CourseHouse", "openEnded", "(I)I"⟩, 14) := ⟨⟨by decide +kernel, by decide +kernel⟩, List.mem_of_getElem? (i := 13) (by decide +kernel), List.mem_of_getElem? (i := 716) (by decide +kernel), List.mem_of_getElem? (i := 717) (by decide +kernel)⟩
theorem lw_p35 : lw_okq (⟨"CourseHouse$Reckoner", "vary", "(I)V"⟩, 9) := ⟨⟨by decide +kernel, by decide +kernel⟩, List.mem_of_getElem? (i := 119) (by decide +kernel), List.mem_of_getElem? (i := 731) (by decide +kernel), List.mem_of_getElem? (i := 732) (by decide +kernel)⟩
theorem lw_p36 : lw_okq (⟨"CourseHouse$Reckoner", "tryMark", "(II)V"⟩, 9) := ⟨⟨by decide +kernel, by decide +kernel⟩, List.mem_of_getElem? (i := 119) (by decide +kernel), List.mem_of_getElem? (i := 737) (by decide +kernel), List.mem_of_getElem? (i := 738) (by decide +kernel)⟩
theorem lw_p37 : lw_okq (⟨"CourseHouse$Reckoner", "widen", "(J)V"⟩, 9) := ⟨⟨by decide +kernel, by decide +kernel⟩, List.mem_of_getElem? (i := 119) (by decide +kernel), List.mem_of_getElem? (i := 742) (by decide +kernel), List.mem_of_getElem? (i := 743) (by decide +kernel)⟩
theorem lw_p38 : lw_okq (⟨"CourseHouseModel", "refuse", "(I)I"⟩, 67) := ⟨⟨by decide +kernel, by decide +kernel⟩, List.mem_of_getElem? (i := 764) (by decide +kernel), List.mem_of_getElem? (i := 977) (by decide +kernel), List.mem_of_getElem? (i := 978) (by decide +kernel)⟩
theorem lw_p39 : lw_okq (⟨"CourseHouseModel", "isPupil", "(I)Z"⟩, 67) := ⟨⟨by decide +kernel, by decide +kernel⟩, List.mem_of_getElem? (i := 764) (by decide +kernel), List.mem_of_getElem? (i := 985) (by decide +kernel), List.mem_of_getElem? (i := 986) (by decide +kernel)⟩
theorem lw_p40 : lw_okq (⟨"CourseHouseModel", "isWork", "(I)Z"⟩, 67) := ⟨⟨by decide +kernel, by decide +kernel⟩, List.mem_of_getElem? (i := 764) (by decide +kernel), List.mem_of_getElem? (i := 1001) (by decide +kernel), List.mem_of_getElem? (i := 1002) (by decide +kernel)⟩
theorem lw_p41 : lw_okq (⟨"CourseHouseModel", "parses", "(I)Z"⟩, 67) := ⟨⟨by decide +kernel, by decide +kernel⟩, List.mem_of_getElem? (i := 764) (by decide +kernel), List.mem_of_getElem? (i := 1024) (by decide +kernel), List.mem_of_getElem? (i := 1025) (by decide +kernel)⟩
theorem lw_p42 : lw_okq (⟨"CourseHouseModel", "reads", "()V"⟩, 67) := ⟨⟨by decide +kernel, by decide +kernel⟩, List.mem_of_getElem? (i := 764) (by decide +kernel), List.mem_of_getElem? (i := 1028) (by decide +kernel), List.mem_of_getElem? (i := 1029) (by decide +kernel)⟩
theorem lw_p43 : lw_okq (⟨"CourseHouseModel", "isFine", "()Z"⟩, 67) := ⟨⟨by decide +kernel, by decide +kernel⟩, List.mem_of_getElem? (i := 764) (by decide +kernel), List.mem_of_getElem? (i := 1038) (by decide +kernel), List.mem_of_getElem? (i := 1039) (by decide +kernel)⟩
theorem lw_p44 : lw_okq (⟨"CourseHouseModel", "faults", "()I"⟩, 67) := ⟨⟨by decide +kernel, by decide +kernel⟩, List.mem_of_getElem? (i := 764) (by decide +kernel), List.mem_of_getElem? (i := 1048) (by decide +kernel), List.mem_of_getElem? (i := 1049) (by decide +kernel)⟩
theorem lw_p45 : lw_okq (⟨"CourseHouseModel", "must", "(I)V"⟩, 67) := ⟨⟨by decide +kernel, by decide +kernel⟩, List.mem_of_getElem? (i := 764) (by decide +kernel), List.mem_of_getElem? (i := 1052) (by decide +kernel), List.mem_of_getElem? (i := 1053) (by decide +kernel)⟩
theorem lw_p46 : lw_okq (⟨"CourseHouseModel", "isSign", "(I)Z"⟩, 67) := ⟨⟨by decide +kernel, by decide +kernel⟩, List.mem_of_getElem? (i := 764) (by decide +kernel), List.mem_of_getElem? (i := 1056) (by decide +kernel), List.mem_of_getElem? (i := 1057) (by decide +kernel)⟩
theorem lw_p47 : lw_okq (⟨"CourseHouseModel", "sum", "(I)I"⟩, 67) := ⟨⟨by decide +kernel, by decide +kernel⟩, List.mem_of_getElem? (i := 764) (by decide +kernel), List.mem_of_getElem? (i := 1060) (by decide +kernel), List.mem_of_getElem? (i := 1061) (by decide +kernel)⟩
def lw_privs_3 : List (MethodName × Nat) := [(⟨"CourseHouse", "peerOf", "(III)I"⟩, 14), (⟨"CourseHouse", "isPeer", "(III)Z"⟩, 14), (⟨"CourseHouse", "openEnded", "(I)I"⟩, 14), (⟨"CourseHouse$Reckoner", "vary", "(I)V"⟩, 9), (⟨"CourseHouse$Reckoner", "tryMark", "(II)V"⟩, 9), (⟨"CourseHouse$Reckoner", "widen", "(J)V"⟩, 9), (⟨"CourseHouseModel", "refuse", "(I)I"⟩, 67), (⟨"CourseHouseModel", "isPupil", "(I)Z"⟩, 67), (⟨"CourseHouseModel", "isWork", "(I)Z"⟩, 67), (⟨"CourseHouseModel", "parses", "(I)Z"⟩, 67), (⟨"CourseHouseModel", "reads", "()V"⟩, 67), (⟨"CourseHouseModel", "isFine", "()Z"⟩, 67), (⟨"CourseHouseModel", "faults", "()I"⟩, 67), (⟨"CourseHouseModel", "must", "(I)V"⟩, 67), (⟨"CourseHouseModel", "isSign", "(I)Z"⟩, 67), (⟨"CourseHouseModel", "sum", "(I)I"⟩, 67)]
theorem lw_r3 : ∀ q ∈ lw_privs_3, lw_okq q := List.forall_mem_cons.mpr ⟨lw_p32, List.forall_mem_cons.mpr ⟨lw_p33, List.forall_mem_cons.mpr ⟨lw_p34, List.forall_mem_cons.mpr ⟨lw_p35, List.forall_mem_cons.mpr ⟨lw_p36, List.forall_mem_cons.mpr ⟨lw_p37, List.forall_mem_cons.mpr ⟨lw_p38, List.forall_mem_cons.mpr ⟨lw_p39, List.forall_mem_cons.mpr ⟨lw_p40, List.forall_mem_cons.mpr ⟨lw_p41, List.forall_mem_cons.mpr ⟨lw_p42, List.forall_mem_cons.mpr ⟨lw_p43, List.forall_mem_cons.mpr ⟨lw_p44, List.forall_mem_cons.mpr ⟨lw_p45, List.forall_mem_cons.mpr ⟨lw_p46, List.forall_mem_cons.mpr ⟨lw_p47, fun _ h => absurd h List.not_mem_nil⟩⟩⟩⟩⟩⟩⟩⟩⟩⟩⟩⟩⟩⟩⟩⟩
theorem lw_p48 : lw_okq (⟨"CourseHouseModel", "node", "(II)I"⟩, 67) := ⟨⟨by decide +kernel, by decide +kernel⟩, List.mem_of_getElem? (i := 764) (by decide +kernel), List.mem_of_getElem? (i := 1064) (by decide +kernel), List.mem_of_getElem? (i := 1065) (by decide +kernel)⟩
theorem lw_p49 : lw_okq (⟨"CourseHouseModel", "product", "(I)I"⟩, 67) := ⟨⟨by decide +kernel, by decide +kernel⟩, List.mem_of_getElem? (i := 764) (by decide +kernel), List.mem_of_getElem? (i := 1068) (by decide +kernel), List.mem_of_getElem? (i := 1069) (by decide +kernel)⟩
theorem lw_p50 : lw_okq (⟨"CourseHouseModel", "one", "(I)I"⟩, 67) := ⟨⟨by decide +kernel, by decide +kernel⟩, List.mem_of_getElem? (i := 764) (by decide +kernel), List.mem_of_getElem? (i := 1072) (by decide +kernel), List.mem_of_getElem? (i := 1073) (by decide +kernel)⟩
theorem lw_p51 : lw_okq (⟨"CourseHouseModel", "list", "(III)I"⟩, 67) := ⟨⟨by decide +kernel, by decide +kernel⟩, List.mem_of_getElem? (i := 764) (by decide +kernel), List.mem_of_getElem? (i := 1076) (by decide +kernel), List.mem_of_getElem? (i := 1077) (by decide +kernel)⟩
theorem lw_p52 : lw_okq (⟨"CourseHouseModel", "adds", "(II)V"⟩, 67) := ⟨⟨by decide +kernel, by decide +kernel⟩, List.mem_of_getElem? (i := 764) (by decide +kernel), List.mem_of_getElem? (i := 1080) (by decide +kernel), List.mem_of_getElem? (i := 1081) (by decide +kernel)⟩
theorem lw_p53 : lw_okq (⟨"CourseHouseModel", "refusesText", "(I)I"⟩, 67) := ⟨⟨by decide +kernel, by decide +kernel⟩, List.mem_of_getElem? (i := 764) (by decide +kernel), List.mem_of_getElem? (i := 1084) (by decide +kernel), List.mem_of_getElem? (i := 1085) (by decide +kernel)⟩
theorem lw_p54 : lw_okq (⟨"CourseHouseModel", "holes", "()I"⟩, 67) := ⟨⟨by decide +kernel, by decide +kernel⟩, List.mem_of_getElem? (i := 764) (by decide +kernel), List.mem_of_getElem? (i := 1088) (by decide +kernel), List.mem_of_getElem? (i := 1089) (by decide +kernel)⟩
theorem lw_p55 : lw_okq (⟨"CourseHouseModel", "ruleOf", "(II)I"⟩, 67) := ⟨⟨by decide +kernel, by decide +kernel⟩, List.mem_of_getElem? (i := 764) (by decide +kernel), List.mem_of_getElem? (i := 1092) (by decide +kernel), List.mem_of_getElem? (i := 1093) (by decide +kernel)⟩
theorem lw_p56 : lw_okq (⟨"CourseHouseModel", "twice", "()I"⟩, 67) := ⟨⟨by decide +kernel, by decide +kernel⟩, List.mem_of_getElem? (i := 764) (by decide +kernel), List.mem_of_getElem? (i := 1096) (by decide +kernel), List.mem_of_getElem? (i := 1097) (by decide +kernel)⟩
theorem lw_p57 : lw_okq (⟨"CourseHouseModel", "findHangs", "(I)V"⟩, 67) := ⟨⟨by decide +kernel, by decide +kernel⟩, List.mem_of_getElem? (i := 764) (by decide +kernel), List.mem_of_getElem? (i := 1100) (by decide +kernel), List.mem_of_getElem? (i := 1101) (by decide +kernel)⟩
theorem lw_p58 : lw_okq (⟨"CourseHouseModel", "isRing", "()Z"⟩, 67) := ⟨⟨by decide +kernel, by decide +kernel⟩, List.mem_of_getElem? (i := 764) (by decide +kernel), List.mem_of_getElem? (i := 1104) (by decide +kernel), List.mem_of_getElem? (i := 1105) (by decide +kernel)⟩
theorem lw_p59 : lw_okq (⟨"CourseHouseModel", "keepsOld", "()V"⟩, 67) := ⟨⟨by decide +kernel, by decide +kernel⟩, List.mem_of_getElem? (i := 764) (by decide +kernel), List.mem_of_getElem? (i := 1108) (by decide +kernel), List.mem_of_getElem? (i := 1109) (by decide +kernel)⟩
theorem lw_p60 : lw_okq (⟨"CourseHouseModel", "begins", "(I)V"⟩, 67) := ⟨⟨by decide +kernel, by decide +kernel⟩, List.mem_of_getElem? (i := 764) (by decide +kernel), List.mem_of_getElem? (i := 1112) (by decide +kernel), List.mem_of_getElem? (i := 1113) (by decide +kernel)⟩
theorem lw_p61 : lw_okq (⟨"CourseHouseModel", "forgets", "()V"⟩, 67) := ⟨⟨by decide +kernel, by decide +kernel⟩, List.mem_of_getElem? (i := 764) (by decide +kernel), List.mem_of_getElem? (i := 1116) (by decide +kernel), List.mem_of_getElem? (i := 1117) (by decide +kernel)⟩
theorem lw_p62 : lw_okq (⟨"CourseHouseModel", "values", "(I)V"⟩, 67) := ⟨⟨by decide +kernel, by decide +kernel⟩, List.mem_of_getElem? (i := 764) (by decide +kernel), List.mem_of_getElem? (i := 1120) (by decide +kernel), List.mem_of_getElem? (i := 1121) (by decide +kernel)⟩
theorem lw_p63 : lw_okq (⟨"CourseHouseModel", "valueOf", "(I)V"⟩, 67) := ⟨⟨by decide +kernel, by decide +kernel⟩, List.mem_of_getElem? (i := 764) (by decide +kernel), List.mem_of_getElem? (i := 1124) (by decide +kernel), List.mem_of_getElem? (i := 1125) (by decide +kernel)⟩
def lw_privs_4 : List (MethodName × Nat) := [(⟨"CourseHouseModel", "node", "(II)I"⟩, 67), (⟨"CourseHouseModel", "product", "(I)I"⟩, 67), (⟨"CourseHouseModel", "one", "(I)I"⟩, 67), (⟨"CourseHouseModel", "list", "(III)I"⟩, 67), (⟨"CourseHouseModel", "adds", "(II)V"⟩, 67), (⟨"CourseHouseModel", "refusesText", "(I)I"⟩, 67), (⟨"CourseHouseModel", "holes", "()I"⟩, 67), (⟨"CourseHouseModel", "ruleOf", "(II)I"⟩, 67), (⟨"CourseHouseModel", "twice", "()I"⟩, 67), (⟨"CourseHouseModel", "findHangs", "(I)V"⟩, 67), (⟨"CourseHouseModel", "isRing", "()Z"⟩, 67), (⟨"CourseHouseModel", "keepsOld", "()V"⟩, 67), (⟨"CourseHouseModel", "begins", "(I)V"⟩, 67), (⟨"CourseHouseModel", "forgets", "()V"⟩, 67), (⟨"CourseHouseModel", "values", "(I)V"⟩, 67), (⟨"CourseHouseModel", "valueOf", "(I)V"⟩, 67)]
theorem lw_r4 : ∀ q ∈ lw_privs_4, lw_okq q := List.forall_mem_cons.mpr ⟨lw_p48, List.forall_mem_cons.mpr ⟨lw_p49, List.forall_mem_cons.mpr ⟨lw_p50, List.forall_mem_cons.mpr ⟨lw_p51, List.forall_mem_cons.mpr ⟨lw_p52, List.forall_mem_cons.mpr ⟨lw_p53, List.forall_mem_cons.mpr ⟨lw_p54, List.forall_mem_cons.mpr ⟨lw_p55, List.forall_mem_cons.mpr ⟨lw_p56, List.forall_mem_cons.mpr ⟨lw_p57, List.forall_mem_cons.mpr ⟨lw_p58, List.forall_mem_cons.mpr ⟨lw_p59, List.forall_mem_cons.mpr ⟨lw_p60, List.forall_mem_cons.mpr ⟨lw_p61, List.forall_mem_cons.mpr ⟨lw_p62, List.forall_mem_cons.mpr ⟨lw_p63, fun _ h => absurd h List.not_mem_nil⟩⟩⟩⟩⟩⟩⟩⟩⟩⟩⟩⟩⟩⟩⟩⟩
theorem lw_p64 : lw_okq (⟨"CourseHouseModel", "tells", "(JJ)V"⟩, 67) := ⟨⟨by decide +kernel, by decide +kernel⟩, List.mem_of_getElem? (i := 764) (by decide +kernel), List.mem_of_getElem? (i := 1128) (by decide +kernel), List.mem_of_getElem? (i := 1129) (by decide +kernel)⟩
theorem lw_p65 : lw_okq (⟨"CourseHouseModel", "workIs", "(I)V"⟩, 67) := ⟨⟨by decide +kernel, by decide +kernel⟩, List.mem_of_getElem? (i := 764) (by decide +kernel), List.mem_of_getElem? (i := 1137) (by decide +kernel), List.mem_of_getElem? (i := 1138) (by decide +kernel)⟩
theorem lw_p66 : lw_okq (⟨"CourseHouseModel", "isMarked", "(II)Z"⟩, 67) := ⟨⟨by decide +kernel, by decide +kernel⟩, List.mem_of_getElem? (i := 764) (by decide +kernel), List.mem_of_getElem? (i := 1141) (by decide +kernel), List.mem_of_getElem? (i := 1142) (by decide +kernel)⟩
theorem lw_p67 : lw_okq (⟨"CourseHouseModel", "peerMarks", "(II)I"⟩, 67) := ⟨⟨by decide +kernel, by decide +kernel⟩, List.mem_of_getElem? (i := 764) (by decide +kernel), List.mem_of_getElem? (i := 1145) (by decide +kernel), List.mem_of_getElem? (i := 1146) (by decide +kernel)⟩
theorem lw_p68 : lw_okq (⟨"CourseHouseModel", "markedIs", "(II)V"⟩, 67) := ⟨⟨by decide +kernel, by decide +kernel⟩, List.mem_of_getElem? (i := 764) (by decide +kernel), List.mem_of_getElem? (i := 1149) (by decide +kernel), List.mem_of_getElem? (i := 1150) (by decide +kernel)⟩
theorem lw_p69 : lw_okq (⟨"CourseHouseModel", "part100", "(III)J"⟩, 67) := ⟨⟨by decide +kernel, by decide +kernel⟩, List.mem_of_getElem? (i := 764) (by decide +kernel), List.mem_of_getElem? (i := 1154) (by decide +kernel), List.mem_of_getElem? (i := 1155) (by decide +kernel)⟩
theorem lw_p70 : lw_okq (⟨"CourseHouseModel", "days", "(III)I"⟩, 67) := ⟨⟨by decide +kernel, by decide +kernel⟩, List.mem_of_getElem? (i := 764) (by decide +kernel), List.mem_of_getElem? (i := 1159) (by decide +kernel), List.mem_of_getElem? (i := 1160) (by decide +kernel)⟩
theorem lw_p71 : lw_okq (⟨"CourseHouseModel", "partsOf", "(I)V"⟩, 67) := ⟨⟨by decide +kernel, by decide +kernel⟩, List.mem_of_getElem? (i := 764) (by decide +kernel), List.mem_of_getElem? (i := 1166) (by decide +kernel), List.mem_of_getElem? (i := 1167) (by decide +kernel)⟩
theorem lw_p72 : lw_okq (⟨"CourseHouseModel", "sums", "(I)V"⟩, 67) := ⟨⟨by decide +kernel, by decide +kernel⟩, List.mem_of_getElem? (i := 764) (by decide +kernel), List.mem_of_getElem? (i := 1170) (by decide +kernel), List.mem_of_getElem? (i := 1171) (by decide +kernel)⟩
theorem lw_p73 : lw_okq (⟨"CourseHouseModel", "plus", "(JJ)V"⟩, 67) := ⟨⟨by decide +kernel, by decide +kernel⟩, List.mem_of_getElem? (i := 764) (by decide +kernel), List.mem_of_getElem? (i := 1174) (by decide +kernel), List.mem_of_getElem? (i := 1175) (by decide +kernel)⟩
theorem lw_p74 : lw_okq (⟨"CourseHouseModel", "multiplies", "(I)V"⟩, 67) := ⟨⟨by decide +kernel, by decide +kernel⟩, List.mem_of_getElem? (i := 764) (by decide +kernel), List.mem_of_getElem? (i := 1178) (by decide +kernel), List.mem_of_getElem? (i := 1179) (by decide +kernel)⟩
theorem lw_p75 : lw_okq (⟨"CourseHouseModel", "caps", "(I)V"⟩, 67) := ⟨⟨by decide +kernel, by decide +kernel⟩, List.mem_of_getElem? (i := 764) (by decide +kernel), List.mem_of_getElem? (i := 1182) (by decide +kernel), List.mem_of_getElem? (i := 1183) (by decide +kernel)⟩
theorem lw_p76 : lw_okq (⟨"CourseHouseModel", "picks", "(II)V"⟩, 67) := ⟨⟨by decide +kernel, by decide +kernel⟩, List.mem_of_getElem? (i := 764) (by decide +kernel), List.mem_of_getElem? (i := 1186) (by decide +kernel), List.mem_of_getElem? (i := 1187) (by decide +kernel)⟩
theorem lw_p77 : lw_okq (⟨"CourseHouseModel", "isLess", "(I)Z"⟩, 67) := ⟨⟨by decide +kernel, by decide +kernel⟩, List.mem_of_getElem? (i := 764) (by decide +kernel), List.mem_of_getElem? (i := 1191) (by decide +kernel), List.mem_of_getElem? (i := 1192) (by decide +kernel)⟩
theorem lw_p78 : lw_okq (⟨"CourseHouseModel", "isRule", "(I)Z"⟩, 67) := ⟨⟨by decide +kernel, by decide +kernel⟩, List.mem_of_getElem? (i := 764) (by decide +kernel), List.mem_of_getElem? (i := 1199) (by decide +kernel), List.mem_of_getElem? (i := 1200) (by decide +kernel)⟩
theorem lw_p79 : lw_okq (⟨"CourseHouseModel", "isOpen", "(II)Z"⟩, 67) := ⟨⟨by decide +kernel, by decide +kernel⟩, List.mem_of_getElem? (i := 764) (by decide +kernel), List.mem_of_getElem? (i := 1215) (by decide +kernel), List.mem_of_getElem? (i := 1216) (by decide +kernel)⟩
def lw_privs_5 : List (MethodName × Nat) := [(⟨"CourseHouseModel", "tells", "(JJ)V"⟩, 67), (⟨"CourseHouseModel", "workIs", "(I)V"⟩, 67), (⟨"CourseHouseModel", "isMarked", "(II)Z"⟩, 67), (⟨"CourseHouseModel", "peerMarks", "(II)I"⟩, 67), (⟨"CourseHouseModel", "markedIs", "(II)V"⟩, 67), (⟨"CourseHouseModel", "part100", "(III)J"⟩, 67), (⟨"CourseHouseModel", "days", "(III)I"⟩, 67), (⟨"CourseHouseModel", "partsOf", "(I)V"⟩, 67), (⟨"CourseHouseModel", "sums", "(I)V"⟩, 67), (⟨"CourseHouseModel", "plus", "(JJ)V"⟩, 67), (⟨"CourseHouseModel", "multiplies", "(I)V"⟩, 67), (⟨"CourseHouseModel", "caps", "(I)V"⟩, 67), (⟨"CourseHouseModel", "picks", "(II)V"⟩, 67), (⟨"CourseHouseModel", "isLess", "(I)Z"⟩, 67), (⟨"CourseHouseModel", "isRule", "(I)Z"⟩, 67), (⟨"CourseHouseModel", "isOpen", "(II)Z"⟩, 67)]
theorem lw_r5 : ∀ q ∈ lw_privs_5, lw_okq q := List.forall_mem_cons.mpr ⟨lw_p64, List.forall_mem_cons.mpr ⟨lw_p65, List.forall_mem_cons.mpr ⟨lw_p66, List.forall_mem_cons.mpr ⟨lw_p67, List.forall_mem_cons.mpr ⟨lw_p68, List.forall_mem_cons.mpr ⟨lw_p69, List.forall_mem_cons.mpr ⟨lw_p70, List.forall_mem_cons.mpr ⟨lw_p71, List.forall_mem_cons.mpr ⟨lw_p72, List.forall_mem_cons.mpr ⟨lw_p73, List.forall_mem_cons.mpr ⟨lw_p74, List.forall_mem_cons.mpr ⟨lw_p75, List.forall_mem_cons.mpr ⟨lw_p76, List.forall_mem_cons.mpr ⟨lw_p77, List.forall_mem_cons.mpr ⟨lw_p78, List.forall_mem_cons.mpr ⟨lw_p79, fun _ h => absurd h List.not_mem_nil⟩⟩⟩⟩⟩⟩⟩⟩⟩⟩⟩⟩⟩⟩⟩⟩
theorem lw_p80 : lw_okq (⟨"CourseHouseModel", "hands", "(IIII)V"⟩, 67) := ⟨⟨by decide +kernel, by decide +kernel⟩, List.mem_of_getElem? (i := 764) (by decide +kernel), List.mem_of_getElem? (i := 1223) (by decide +kernel), List.mem_of_getElem? (i := 1224) (by decide +kernel)⟩
theorem lw_p81 : lw_okq (⟨"CourseHouseModel", "handsAll", "(II)I"⟩, 67) := ⟨⟨by decide +kernel, by decide +kernel⟩, List.mem_of_getElem? (i := 764) (by decide +kernel), List.mem_of_getElem? (i := 1227) (by decide +kernel), List.mem_of_getElem? (i := 1228) (by decide +kernel)⟩
theorem lw_p82 : lw_okq (⟨"CourseHouseModel", "toMark", "(II)I"⟩, 67) := ⟨⟨by decide +kernel, by decide +kernel⟩, List.mem_of_getElem? (i := 764) (by decide +kernel), List.mem_of_getElem? (i := 1235) (by decide +kernel), List.mem_of_getElem? (i := 1236) (by decide +kernel)⟩
theorem lw_p83 : lw_okq (⟨"CourseHouseModel", "isShown", "(II)Z"⟩, 67) := ⟨⟨by decide +kernel, by decide +kernel⟩, List.mem_of_getElem? (i := 764) (by decide +kernel), List.mem_of_getElem? (i := 1243) (by decide +kernel), List.mem_of_getElem? (i := 1244) (by decide +kernel)⟩
theorem lw_p84 : lw_okq (⟨"CourseHouseModel", "peerOf", "(III)I"⟩, 67) := ⟨⟨by decide +kernel, by decide +kernel⟩, List.mem_of_getElem? (i := 764) (by decide +kernel), List.mem_of_getElem? (i := 1247) (by decide +kernel), List.mem_of_getElem? (i := 1248) (by decide +kernel)⟩
theorem lw_p85 : lw_okq (⟨"CourseHouseModel", "refuseFar", "(I)I"⟩, 67) := ⟨⟨by decide +kernel, by decide +kernel⟩, List.mem_of_getElem? (i := 764) (by decide +kernel), List.mem_of_getElem? (i := 1267) (by decide +kernel), List.mem_of_getElem? (i := 1268) (by decide +kernel)⟩
theorem lw_p86 : lw_okq (⟨"CourseHouseModel", "isOpenEnded", "(II)Z"⟩, 67) := ⟨⟨by decide +kernel, by decide +kernel⟩, List.mem_of_getElem? (i := 764) (by decide +kernel), List.mem_of_getElem? (i := 1276) (by decide +kernel), List.mem_of_getElem? (i := 1277) (by decide +kernel)⟩
theorem lw_p87 : lw_okq (⟨"CourseHouseModel", "goes", "(II)V"⟩, 67) := ⟨⟨by decide +kernel, by decide +kernel⟩, List.mem_of_getElem? (i := 764) (by decide +kernel), List.mem_of_getElem? (i := 1280) (by decide +kernel), List.mem_of_getElem? (i := 1281) (by decide +kernel)⟩
theorem lw_p88 : lw_okq (⟨"CourseHouseModel", "looks", "(I)V"⟩, 67) := ⟨⟨by decide +kernel, by decide +kernel⟩, List.mem_of_getElem? (i := 764) (by decide +kernel), List.mem_of_getElem? (i := 1284) (by decide +kernel), List.mem_of_getElem? (i := 1285) (by decide +kernel)⟩
def lw_privs_6 : List (MethodName × Nat) := [(⟨"CourseHouseModel", "hands", "(IIII)V"⟩, 67), (⟨"CourseHouseModel", "handsAll", "(II)I"⟩, 67), (⟨"CourseHouseModel", "toMark", "(II)I"⟩, 67), (⟨"CourseHouseModel", "isShown", "(II)Z"⟩, 67), (⟨"CourseHouseModel", "peerOf", "(III)I"⟩, 67), (⟨"CourseHouseModel", "refuseFar", "(I)I"⟩, 67), (⟨"CourseHouseModel", "isOpenEnded", "(II)Z"⟩, 67), (⟨"CourseHouseModel", "goes", "(II)V"⟩, 67), (⟨"CourseHouseModel", "looks", "(I)V"⟩, 67)]
theorem lw_r6 : ∀ q ∈ lw_privs_6, lw_okq q := List.forall_mem_cons.mpr ⟨lw_p80, List.forall_mem_cons.mpr ⟨lw_p81, List.forall_mem_cons.mpr ⟨lw_p82, List.forall_mem_cons.mpr ⟨lw_p83, List.forall_mem_cons.mpr ⟨lw_p84, List.forall_mem_cons.mpr ⟨lw_p85, List.forall_mem_cons.mpr ⟨lw_p86, List.forall_mem_cons.mpr ⟨lw_p87, List.forall_mem_cons.mpr ⟨lw_p88, fun _ h => absurd h List.not_mem_nil⟩⟩⟩⟩⟩⟩⟩⟩⟩
def lw_privs : List (MethodName × Nat) := lw_privs_1 ++ (lw_privs_2 ++ (lw_privs_3 ++ (lw_privs_4 ++ (lw_privs_5 ++ (lw_privs_6)))))
def lw_tbl : List Cond := k2_sels lw_privs ++ tables_1
theorem lw_privs_ok : ∀ q ∈ lw_privs, lw_okq q := by
  show ∀ q ∈ lw_privs_1 ++ (lw_privs_2 ++ (lw_privs_3 ++ (lw_privs_4 ++ (lw_privs_5 ++ (lw_privs_6))))), lw_okq q
  exact List.forall_mem_append.mpr ⟨lw_r1, List.forall_mem_append.mpr ⟨lw_r2, List.forall_mem_append.mpr ⟨lw_r3, List.forall_mem_append.mpr ⟨lw_r4, List.forall_mem_append.mpr ⟨lw_r5, lw_r6⟩⟩⟩⟩⟩
-- ===== end of PART A; then your names; then what follows =====
/-! ===== BEGIN words of one list among another's, by their places ===== -/
theorem goodIn_r {big : List Cond} (ws : List Cond) (ps : List Nat) (hp : ws = ps.filterMap (fun i => big[i]?)) (h : ws.all goodWord = true) : GoodIn big ws := by
  intro w hw
  have h1 := List.all_eq_true.mp h w hw
  rw [hp] at hw
  obtain ⟨i, -, hi⟩ := List.mem_filterMap.mp hw
  have hm : w ∈ big := by first | exact List.mem_of_getElem? hi | exact List.getElem?_mem hi
  exact ⟨hm, good_of_word h1⟩
theorem goodIn_app {big a b : List Cond} (ha : GoodIn big a) (hb : GoodIn big b) : GoodIn big (a ++ b) := fun w h => (List.mem_append.mp h).elim (ha w) (hb w)
theorem goodIn_ca {big a b : List Cond} {c : Cond} (ha : GoodIn big (c :: a)) (hb : GoodIn big b) : GoodIn big (c :: (a ++ b)) := fun w h => (List.mem_cons.mp h).elim (fun e => ha w (List.mem_cons.mpr (Or.inl e))) (fun h => (List.mem_append.mp h).elim (fun h => ha w (List.mem_cons.mpr (Or.inr h))) (hb w))
theorem goodIn_sub {big ws : List Cond} (hm : ∀ w ∈ ws, w ∈ big) (h : ws.all goodWord = true) : GoodIn big ws := fun w hw => ⟨hm w hw, good_of_word (List.all_eq_true.mp h w hw)⟩
/-! ===== END ===== -/

/-! ===== BEGIN printed: names, fields, word lists, decode rows ===== -/
def RX0 : String := "CourseHouse$Book"
def TX0 : u_T := fun k => match k with
  | 0 => ("CourseHouse$Book", "size", "I", false)
  | 1 => ("CourseHouse$Book", "minus", "Z", false)
  | 2 => ("CourseHouse$Book", "steps", "I", false)
  | 3 => ("CourseHouse$Book", "names", "[I", true)
  | 4 => ("CourseHouse$Book", "begins", "[I", true)
  | 5 => ("CourseHouse$Book", "ends", "[I", true)
  | 6 => ("CourseHouse$Book", "named", "[I", true)
  | 7 => ("CourseHouse$Book", "below", "[I", true)
  | 8 => ("CourseHouse$Book", "order", "[I", true)
  | 9 => ("CourseHouse$Book", "ops", "[I", true)
  | 10 => ("CourseHouse$Book", "args", "[I", true)
  | _ => ("CourseHouse$Book", "takes", "[I", true)
def tyX0 : Nat → FieldType := fun k => match k with
  | 0 => .int
  | 1 => .boolean
  | 2 => .int
  | 3 => .array .int
  | 4 => .array .int
  | 5 => .array .int
  | 6 => .array .int
  | 7 => .array .int
  | 8 => .array .int
  | 9 => .array .int
  | 10 => .array .int
  | _ => .array .int
abbrev wsX00 : List Cond := u_ws RX0 TX0 12
theorem nmX0 : ∀ a, a < 12 → ∀ b, b < 12 → a ≠ b → (TX0 a).2.1 ≠ (TX0 b).2.1 := by decide +kernel
theorem tyX0_ok : ∀ k, k < 12 → parseFieldDescriptor (TX0 k).2.2.1 = some (tyX0 k) := by decide +kernel
abbrev cX0_init : ByteArray := prog_2_method_1_code
def yX0_init : MethodName := ⟨RX0, "<init>", "()V"⟩
abbrev cX0_clear : ByteArray := prog_2_method_2_code
def yX0_clear : MethodName := ⟨RX0, "clear", "()V"⟩
abbrev cX0_isPlace : ByteArray := prog_2_method_3_code
def yX0_isPlace : MethodName := ⟨RX0, "isPlace", "(I)Z"⟩
abbrev cX0_begin : ByteArray := prog_2_method_4_code
def yX0_begin : MethodName := ⟨RX0, "begin", "(I)Z"⟩
abbrev cX0_add : ByteArray := prog_2_method_5_code
def yX0_add : MethodName := ⟨RX0, "add", "(III)V"⟩
abbrev cX0_namedBy : ByteArray := prog_2_method_6_code
def yX0_namedBy : MethodName := ⟨RX0, "namedBy", "(I)I"⟩
abbrev cX0_nameOf : ByteArray := prog_2_method_7_code
def yX0_nameOf : MethodName := ⟨RX0, "nameOf", "(I)I"⟩
abbrev cX0_belowOf : ByteArray := prog_2_method_8_code
def yX0_belowOf : MethodName := ⟨RX0, "belowOf", "(I)I"⟩
abbrev cX0_inOrder : ByteArray := prog_2_method_9_code
def yX0_inOrder : MethodName := ⟨RX0, "inOrder", "(I)I"⟩
abbrev cX0_goal : ByteArray := prog_2_method_10_code
def yX0_goal : MethodName := ⟨RX0, "goal", "(I)I"⟩
abbrev cX0_find : ByteArray := prog_2_method_11_code
def yX0_find : MethodName := ⟨RX0, "find", "(I)I"⟩
abbrev cX0_tie : ByteArray := prog_2_method_12_code
def yX0_tie : MethodName := ⟨RX0, "tie", "(I)I"⟩
abbrev cX0_placeOf : ByteArray := prog_2_method_13_code
def yX0_placeOf : MethodName := ⟨RX0, "placeOf", "(II)I"⟩
abbrev cX0_firstTwice : ByteArray := prog_2_method_14_code
def yX0_firstTwice : MethodName := ⟨RX0, "firstTwice", "()I"⟩
abbrev cX0_arrange : ByteArray := prog_2_method_15_code
def yX0_arrange : MethodName := ⟨RX0, "arrange", "()V"⟩
abbrev cX0_withBelow : ByteArray := prog_2_method_16_code
def yX0_withBelow : MethodName := ⟨RX0, "withBelow", "(I)I"⟩
def RX1 : String := "CourseHouse$Reader"
def TX1 : u_T := fun k => match k with
  | 0 => ("CourseHouse$Reader", "bytes", "[B", true)
  | 1 => ("CourseHouse$Reader", "length", "I", false)
  | 2 => ("CourseHouse$Reader", "book", "LCourseHouse$Book;", false)
  | 3 => ("CourseHouse$Reader", "kinds", "[I", true)
  | 4 => ("CourseHouse$Reader", "numbers", "[I", true)
  | 5 => ("CourseHouse$Reader", "places", "[I", true)
  | 6 => ("CourseHouse$Reader", "at", "I", false)
  | 7 => ("CourseHouse$Reader", "kind", "I", false)
  | 8 => ("CourseHouse$Reader", "number", "I", false)
  | _ => ("CourseHouse$Reader", "fault", "I", false)
def tyX1 : Nat → FieldType := fun k => match k with
  | 0 => .array .byte
  | 1 => .int
  | 2 => .object "CourseHouse$Book"
  | 3 => .array .int
  | 4 => .array .int
  | 5 => .array .int
  | 6 => .int
  | 7 => .int
  | 8 => .int
  | _ => .int
abbrev wsX10 : List Cond := u_ws RX1 TX1 10
theorem nmX1 : ∀ a, a < 10 → ∀ b, b < 10 → a ≠ b → (TX1 a).2.1 ≠ (TX1 b).2.1 := by decide +kernel
theorem tyX1_ok : ∀ k, k < 10 → parseFieldDescriptor (TX1 k).2.2.1 = some (tyX1 k) := by decide +kernel
abbrev cX1_init : ByteArray := prog_3_method_1_code
def yX1_init : MethodName := ⟨RX1, "<init>", "()V"⟩
abbrev cX1_add : ByteArray := prog_3_method_2_code
def yX1_add : MethodName := ⟨RX1, "add", "(I)V"⟩
abbrev cX1_read : ByteArray := prog_3_method_3_code
def yX1_read : MethodName := ⟨RX1, "read", "(I)I"⟩
abbrev cX1_part : ByteArray := prog_3_method_4_code
def yX1_part : MethodName := ⟨RX1, "part", "(I)V"⟩
abbrev cX1_kindAt : ByteArray := prog_3_method_5_code
def yX1_kindAt : MethodName := ⟨RX1, "kindAt", "(I)I"⟩
abbrev cX1_putWord : ByteArray := prog_3_method_6_code
def yX1_putWord : MethodName := ⟨RX1, "putWord", "(IIII)V"⟩
abbrev cX1_turnTo : ByteArray := prog_3_method_7_code
def yX1_turnTo : MethodName := ⟨RX1, "turnTo", "(I)V"⟩
abbrev cX1_fail : ByteArray := prog_3_method_8_code
def yX1_fail : MethodName := ⟨RX1, "fail", "()V"⟩
abbrev cX1_take : ByteArray := prog_3_method_9_code
def yX1_take : MethodName := ⟨RX1, "take", "(I)V"⟩
abbrev cX1_isKept : ByteArray := prog_3_method_10_code
def yX1_isKept : MethodName := ⟨RX1, "isKept", "(I)Z"⟩
abbrev cX1_opOf : ByteArray := prog_3_method_11_code
def yX1_opOf : MethodName := ⟨RX1, "opOf", "(I)I"⟩
abbrev cX1_readSum : ByteArray := prog_3_method_12_code
def yX1_readSum : MethodName := ⟨RX1, "readSum", "(I)V"⟩
abbrev cX1_readProduct : ByteArray := prog_3_method_13_code
def yX1_readProduct : MethodName := ⟨RX1, "readProduct", "(I)V"⟩
abbrev cX1_readPart : ByteArray := prog_3_method_14_code
def yX1_readPart : MethodName := ⟨RX1, "readPart", "(I)V"⟩
abbrev cX1_readCall : ByteArray := prog_3_method_15_code
def yX1_readCall : MethodName := ⟨RX1, "readCall", "(II)V"⟩
abbrev cX1_open : ByteArray := prog_3_method_16_code
def yX1_open : MethodName := ⟨RX1, "open", "(I)V"⟩
def RX2 : String := "CourseHouse$Reckoner"
def TX2 : u_T := fun k => match k with
  | 0 => ("CourseHouse$Reckoner", "values", "[J", true)
  | 1 => ("CourseHouse$Reckoner", "before", "[J", true)
  | 2 => ("CourseHouse$Reckoner", "stack", "[J", true)
  | 3 => ("CourseHouse$Reckoner", "mosts", "[I", true)
  | 4 => ("CourseHouse$Reckoner", "varied", "[I", true)
  | 5 => ("CourseHouse$Reckoner", "lasts", "[I", true)
  | 6 => ("CourseHouse$Reckoner", "changed", "I", false)
  | 7 => ("CourseHouse$Reckoner", "lowest", "J", false)
  | _ => ("CourseHouse$Reckoner", "highest", "J", false)
def tyX2 : Nat → FieldType := fun k => match k with
  | 0 => .array .long
  | 1 => .array .long
  | 2 => .array .long
  | 3 => .array .int
  | 4 => .array .int
  | 5 => .array .int
  | 6 => .int
  | 7 => .long
  | _ => .long
abbrev wsX20 : List Cond := u_ws RX2 TX2 9
theorem nmX2 : ∀ a, a < 9 → ∀ b, b < 9 → a ≠ b → (TX2 a).2.1 ≠ (TX2 b).2.1 := by decide +kernel
theorem tyX2_ok : ∀ k, k < 9 → parseFieldDescriptor (TX2 k).2.2.1 = some (tyX2 k) := by decide +kernel
abbrev cX2_init : ByteArray := prog_4_method_1_code
def yX2_init : MethodName := ⟨RX2, "<init>", "()V"⟩
abbrev cX2_setMark : ByteArray := prog_4_method_2_code
def yX2_setMark : MethodName := ⟨RX2, "setMark", "(IJI)V"⟩
abbrev cX2_at : ByteArray := prog_4_method_3_code
def yX2_at : MethodName := ⟨RX2, "at", "([JI)J"⟩
abbrev cX2_ofRule : ByteArray := prog_4_method_4_code
def yX2_ofRule : MethodName := ⟨RX2, "ofRule", "(I)J"⟩
abbrev cX2_keep : ByteArray := prog_4_method_5_code
def yX2_keep : MethodName := ⟨RX2, "keep", "()V"⟩
abbrev cX2_kept : ByteArray := prog_4_method_6_code
def yX2_kept : MethodName := ⟨RX2, "kept", "(I)J"⟩
abbrev cX2_settle : ByteArray := prog_4_method_7_code
def yX2_settle : MethodName := ⟨RX2, "settle", "(LCourseHouse$Book;II)V"⟩
abbrev cX2_run : ByteArray := prog_4_method_8_code
def yX2_run : MethodName := ⟨RX2, "run", "(LCourseHouse$Book;I)J"⟩
abbrev cX2_ofList : ByteArray := prog_4_method_9_code
def yX2_ofList : MethodName := ⟨RX2, "ofList", "(IIII)J"⟩
abbrev cX2_sortDown : ByteArray := prog_4_method_10_code
def yX2_sortDown : MethodName := ⟨RX2, "sortDown", "(II)V"⟩
abbrev cX2_tryMark : ByteArray := prog_4_method_11_code
def yX2_tryMark : MethodName := ⟨RX2, "tryMark", "(II)V"⟩
abbrev cX2_widen : ByteArray := prog_4_method_12_code
def yX2_widen : MethodName := ⟨RX2, "widen", "(J)V"⟩
abbrev cX2_tryEnds : ByteArray := prog_4_method_13_code
def yX2_tryEnds : MethodName := ⟨RX2, "tryEnds", "(LCourseHouse$Book;II)V"⟩
abbrev cX2_tryAll : ByteArray := prog_4_method_14_code
def yX2_tryAll : MethodName := ⟨RX2, "tryAll", "(LCourseHouse$Book;II)V"⟩
abbrev cX2_vary : ByteArray := prog_4_method_15_code
def yX2_vary : MethodName := ⟨RX2, "vary", "(I)V"⟩
abbrev cX2_leastMark : ByteArray := prog_4_method_16_code
def yX2_leastMark : MethodName := ⟨RX2, "leastMark", "(LCourseHouse$Book;III)I"⟩
def RX3 : String := "CourseHouse$Sheet"
def TX3 : u_T := fun k => match k with
  | 0 => ("CourseHouse$Sheet", "leave", "I", false)
  | 1 => ("CourseHouse$Sheet", "excused", "Z", false)
  | 2 => ("CourseHouse$Sheet", "hands", "I", false)
  | 3 => ("CourseHouse$Sheet", "by", "I", false)
  | 4 => ("CourseHouse$Sheet", "ticks", "[I", true)
  | 5 => ("CourseHouse$Sheet", "marks", "[I", true)
  | _ => ("CourseHouse$Sheet", "shown", "[I", true)
def tyX3 : Nat → FieldType := fun k => match k with
  | 0 => .int
  | 1 => .boolean
  | 2 => .int
  | 3 => .int
  | 4 => .array .int
  | 5 => .array .int
  | _ => .array .int
abbrev wsX30 : List Cond := u_ws RX3 TX3 7
theorem nmX3 : ∀ a, a < 7 → ∀ b, b < 7 → a ≠ b → (TX3 a).2.1 ≠ (TX3 b).2.1 := by decide +kernel
theorem tyX3_ok : ∀ k, k < 7 → parseFieldDescriptor (TX3 k).2.2.1 = some (tyX3 k) := by decide +kernel
abbrev cX3_init : ByteArray := prog_5_method_1_code
def yX3_init : MethodName := ⟨RX3, "<init>", "()V"⟩
abbrev cX3_latest : ByteArray := prog_5_method_2_code
def yX3_latest : MethodName := ⟨RX3, "latest", "(I)I"⟩
abbrev cX3_isSlot : ByteArray := prog_5_method_3_code
def yX3_isSlot : MethodName := ⟨RX3, "isSlot", "(I)Z"⟩
abbrev cX3_tickOf : ByteArray := prog_5_method_4_code
def yX3_tickOf : MethodName := ⟨RX3, "tickOf", "(I)I"⟩
abbrev cX3_lastMarked : ByteArray := prog_5_method_5_code
def yX3_lastMarked : MethodName := ⟨RX3, "lastMarked", "()I"⟩
abbrev cX3_waits : ByteArray := prog_5_method_6_code
def yX3_waits : MethodName := ⟨RX3, "waits", "(I)Z"⟩
abbrev cX3_takesMore : ByteArray := prog_5_method_7_code
def yX3_takesMore : MethodName := ⟨RX3, "takesMore", "(I)Z"⟩
abbrev cX3_add : ByteArray := prog_5_method_8_code
def yX3_add : MethodName := ⟨RX3, "add", "(III)V"⟩
abbrev cX3_put : ByteArray := prog_5_method_9_code
def yX3_put : MethodName := ⟨RX3, "put", "(II)I"⟩
abbrev cX3_hasShown : ByteArray := prog_5_method_10_code
def yX3_hasShown : MethodName := ⟨RX3, "hasShown", "(I)Z"⟩
abbrev cX3_putShown : ByteArray := prog_5_method_11_code
def yX3_putShown : MethodName := ⟨RX3, "putShown", "(II)I"⟩
abbrev cX3_shownMarks : ByteArray := prog_5_method_12_code
def yX3_shownMarks : MethodName := ⟨RX3, "shownMarks", "()I"⟩
abbrev cX3_isMarked : ByteArray := prog_5_method_13_code
def yX3_isMarked : MethodName := ⟨RX3, "isMarked", "()Z"⟩
abbrev cX3_days : ByteArray := prog_5_method_14_code
def yX3_days : MethodName := ⟨RX3, "days", "(LCourseHouse$Work;I)I"⟩
abbrev cX3_share : ByteArray := prog_5_method_15_code
def yX3_share : MethodName := ⟨RX3, "share", "(LCourseHouse$Work;I)I"⟩
abbrev cX3_worth : ByteArray := prog_5_method_16_code
def yX3_worth : MethodName := ⟨RX3, "worth", "(LCourseHouse$Work;)J"⟩
abbrev cX3_shownWorth : ByteArray := prog_5_method_17_code
def yX3_shownWorth : MethodName := ⟨RX3, "shownWorth", "(LCourseHouse$Work;)J"⟩
def RX4 : String := "CourseHouse$Values"
def TX4 : u_T := fun k => match k with
  | _ => ("", "", "", false)
def tyX4 : Nat → FieldType := fun k => match k with
  | _ => .int
abbrev wsX40 : List Cond := u_ws RX4 TX4 0
theorem nmX4 : ∀ a, a < 0 → ∀ b, b < 0 → a ≠ b → (TX4 a).2.1 ≠ (TX4 b).2.1 := by decide +kernel
theorem tyX4_ok : ∀ k, k < 0 → parseFieldDescriptor (TX4 k).2.2.1 = some (tyX4 k) := by decide +kernel
abbrev cX4_upper : ByteArray := prog_6_method_2_code
def yX4_upper : MethodName := ⟨RX4, "upper", "(J)J"⟩
abbrev cX4_lower : ByteArray := prog_6_method_3_code
def yX4_lower : MethodName := ⟨RX4, "lower", "(J)J"⟩
abbrev cX4_isNumber : ByteArray := prog_6_method_4_code
def yX4_isNumber : MethodName := ⟨RX4, "isNumber", "(J)Z"⟩
abbrev cX4_whole : ByteArray := prog_6_method_5_code
def yX4_whole : MethodName := ⟨RX4, "whole", "(I)J"⟩
abbrev cX4_of : ByteArray := prog_6_method_6_code
def yX4_of : MethodName := ⟨RX4, "of", "(JJ)J"⟩
abbrev cX4_plus : ByteArray := prog_6_method_7_code
def yX4_plus : MethodName := ⟨RX4, "plus", "(JJ)J"⟩
abbrev cX4_negated : ByteArray := prog_6_method_8_code
def yX4_negated : MethodName := ⟨RX4, "negated", "(J)J"⟩
abbrev cX4_times : ByteArray := prog_6_method_9_code
def yX4_times : MethodName := ⟨RX4, "times", "(JJ)J"⟩
abbrev cX4_over : ByteArray := prog_6_method_10_code
def yX4_over : MethodName := ⟨RX4, "over", "(JI)J"⟩
abbrev cX4_onTheWay : ByteArray := prog_6_method_11_code
def yX4_onTheWay : MethodName := ⟨RX4, "onTheWay", "(J)J"⟩
abbrev cX4_ended : ByteArray := prog_6_method_12_code
def yX4_ended : MethodName := ⟨RX4, "ended", "(J)J"⟩
abbrev cX4_cap : ByteArray := prog_6_method_13_code
def yX4_cap : MethodName := ⟨RX4, "cap", "(JI)J"⟩
abbrev cX4_pass : ByteArray := prog_6_method_14_code
def yX4_pass : MethodName := ⟨RX4, "pass", "(JI)J"⟩
abbrev cX4_isLess : ByteArray := prog_6_method_15_code
def yX4_isLess : MethodName := ⟨RX4, "isLess", "(JJ)Z"⟩
abbrev cX4_isAtLeast : ByteArray := prog_6_method_16_code
def yX4_isAtLeast : MethodName := ⟨RX4, "isAtLeast", "(JI)Z"⟩
def RX5 : String := "CourseHouse$Work"
def TX5 : u_T := fun k => match k with
  | 0 => ("CourseHouse$Work", "kind", "I", false)
  | 1 => ("CourseHouse$Work", "most", "I", false)
  | 2 => ("CourseHouse$Work", "due", "I", false)
  | 3 => ("CourseHouse$Work", "less", "I", false)
  | 4 => ("CourseHouse$Work", "needs", "I", false)
  | _ => ("CourseHouse$Work", "number", "I", false)
def tyX5 : Nat → FieldType := fun k => match k with
  | 0 => .int
  | 1 => .int
  | 2 => .int
  | 3 => .int
  | 4 => .int
  | _ => .int
abbrev wsX50 : List Cond := u_ws RX5 TX5 6
theorem nmX5 : ∀ a, a < 6 → ∀ b, b < 6 → a ≠ b → (TX5 a).2.1 ≠ (TX5 b).2.1 := by decide +kernel
theorem tyX5_ok : ∀ k, k < 6 → parseFieldDescriptor (TX5 k).2.2.1 = some (tyX5 k) := by decide +kernel
abbrev cX5_init : ByteArray := prog_7_method_1_code
def yX5_init : MethodName := ⟨RX5, "<init>", "()V"⟩
def RX6 : String := "CourseHouse"
def TX6 : u_T := fun k => match k with
  | 0 => ("CourseHouse", "groups", "[I", true)
  | 1 => ("CourseHouse", "works", "[LCourseHouse$Work;", true)
  | 2 => ("CourseHouse", "sheets", "[LCourseHouse$Sheet;", true)
  | 3 => ("CourseHouse", "reader", "LCourseHouse$Reader;", true)
  | 4 => ("CourseHouse", "reckoner", "LCourseHouse$Reckoner;", true)
  | 5 => ("CourseHouse", "book", "LCourseHouse$Book;", false)
  | 6 => ("CourseHouse", "refusals", "[I", true)
  | 7 => ("CourseHouse", "pupils", "I", false)
  | 8 => ("CourseHouse", "worksMade", "I", false)
  | 9 => ("CourseHouse", "now", "I", false)
  | 10 => ("CourseHouse", "handIns", "I", false)
  | 11 => ("CourseHouse", "marksGiven", "I", false)
  | 12 => ("CourseHouse", "appeals", "I", false)
  | _ => ("CourseHouse", "textsRefused", "I", false)
def tyX6 : Nat → FieldType := fun k => match k with
  | 0 => .array .int
  | 1 => .array (.object "CourseHouse$Work")
  | 2 => .array (.object "CourseHouse$Sheet")
  | 3 => .object "CourseHouse$Reader"
  | 4 => .object "CourseHouse$Reckoner"
  | 5 => .object "CourseHouse$Book"
  | 6 => .array .int
  | 7 => .int
  | 8 => .int
  | 9 => .int
  | 10 => .int
  | 11 => .int
  | 12 => .int
  | _ => .int
abbrev wsX60 : List Cond := u_ws RX6 TX6 14
theorem nmX6 : ∀ a, a < 14 → ∀ b, b < 14 → a ≠ b → (TX6 a).2.1 ≠ (TX6 b).2.1 := by decide +kernel
theorem tyX6_ok : ∀ k, k < 14 → parseFieldDescriptor (TX6 k).2.2.1 = some (tyX6 k) := by decide +kernel
abbrev cX6_init : ByteArray := prog_1_method_1_code
def yX6_init : MethodName := ⟨RX6, "<init>", "()V"⟩
abbrev cX6_pupil : ByteArray := prog_1_method_2_code
def yX6_pupil : MethodName := ⟨RX6, "pupil", "()I"⟩
abbrev cX6_group : ByteArray := prog_1_method_3_code
def yX6_group : MethodName := ⟨RX6, "group", "(II)I"⟩
abbrev cX6_work : ByteArray := prog_1_method_4_code
def yX6_work : MethodName := ⟨RX6, "work", "(IIII)I"⟩
abbrev cX6_leave : ByteArray := prog_1_method_5_code
def yX6_leave : MethodName := ⟨RX6, "leave", "(III)I"⟩
abbrev cX6_excuse : ByteArray := prog_1_method_6_code
def yX6_excuse : MethodName := ⟨RX6, "excuse", "(IIZ)I"⟩
abbrev cX6_tick : ByteArray := prog_1_method_7_code
def yX6_tick : MethodName := ⟨RX6, "tick", "(I)I"⟩
abbrev cX6_text : ByteArray := prog_1_method_8_code
def yX6_text : MethodName := ⟨RX6, "text", "(IIIII)I"⟩
abbrev cX6_rules : ByteArray := prog_1_method_9_code
def yX6_rules : MethodName := ⟨RX6, "rules", "(IZ)I"⟩
abbrev cX6_name : ByteArray := prog_1_method_10_code
def yX6_name : MethodName := ⟨RX6, "name", "(I)I"⟩
abbrev cX6_hangs : ByteArray := prog_1_method_11_code
def yX6_hangs : MethodName := ⟨RX6, "hangs", "(II)I"⟩
abbrev cX6_need : ByteArray := prog_1_method_12_code
def yX6_need : MethodName := ⟨RX6, "need", "(III)I"⟩
abbrev cX6_opens : ByteArray := prog_1_method_13_code
def yX6_opens : MethodName := ⟨RX6, "opens", "(II)I"⟩
abbrev cX6_hand : ByteArray := prog_1_method_14_code
def yX6_hand : MethodName := ⟨RX6, "hand", "(II)I"⟩
abbrev cX6_mark : ByteArray := prog_1_method_15_code
def yX6_mark : MethodName := ⟨RX6, "mark", "(III)I"⟩
abbrev cX6_peer : ByteArray := prog_1_method_16_code
def yX6_peer : MethodName := ⟨RX6, "peer", "(III)I"⟩
abbrev cX6_show : ByteArray := prog_1_method_17_code
def yX6_show : MethodName := ⟨RX6, "show", "(IIII)I"⟩
abbrev cX6_appeal : ByteArray := prog_1_method_18_code
def yX6_appeal : MethodName := ⟨RX6, "appeal", "(III)I"⟩
abbrev cX6_markOf : ByteArray := prog_1_method_19_code
def yX6_markOf : MethodName := ⟨RX6, "markOf", "(III)I"⟩
abbrev cX6_value : ByteArray := prog_1_method_20_code
def yX6_value : MethodName := ⟨RX6, "value", "(III)I"⟩
abbrev cX6_range : ByteArray := prog_1_method_21_code
def yX6_range : MethodName := ⟨RX6, "range", "(III)I"⟩
abbrev cX6_least : ByteArray := prog_1_method_22_code
def yX6_least : MethodName := ⟨RX6, "least", "(IIII)I"⟩
abbrev cX6_count : ByteArray := prog_1_method_23_code
def yX6_count : MethodName := ⟨RX6, "count", "(I)I"⟩
abbrev cX6_refuse : ByteArray := prog_1_method_24_code
def yX6_refuse : MethodName := ⟨RX6, "refuse", "(I)I"⟩
abbrev cX6_refuseText : ByteArray := prog_1_method_25_code
def yX6_refuseText : MethodName := ⟨RX6, "refuseText", "(I)I"⟩
abbrev cX6_isPupil : ByteArray := prog_1_method_26_code
def yX6_isPupil : MethodName := ⟨RX6, "isPupil", "(I)Z"⟩
abbrev cX6_isRule : ByteArray := prog_1_method_27_code
def yX6_isRule : MethodName := ⟨RX6, "isRule", "(I)Z"⟩
abbrev cX6_workAt : ByteArray := prog_1_method_28_code
def yX6_workAt : MethodName := ⟨RX6, "workAt", "(I)LCourseHouse$Work;"⟩
abbrev cX6_sheetOf : ByteArray := prog_1_method_29_code
def yX6_sheetOf : MethodName := ⟨RX6, "sheetOf", "(II)LCourseHouse$Sheet;"⟩
abbrev cX6_bit : ByteArray := prog_1_method_30_code
def yX6_bit : MethodName := ⟨RX6, "bit", "(II)I"⟩
abbrev cX6_part : ByteArray := prog_1_method_31_code
def yX6_part : MethodName := ⟨RX6, "part", "(JI)I"⟩
abbrev cX6_under : ByteArray := prog_1_method_32_code
def yX6_under : MethodName := ⟨RX6, "under", "(LCourseHouse$Book;I)I"⟩
abbrev cX6_hasRing : ByteArray := prog_1_method_33_code
def yX6_hasRing : MethodName := ⟨RX6, "hasRing", "(LCourseHouse$Book;)Z"⟩
abbrev cX6_needsBeyond : ByteArray := prog_1_method_34_code
def yX6_needsBeyond : MethodName := ⟨RX6, "needsBeyond", "(I)Z"⟩
abbrev cX6_lessens : ByteArray := prog_1_method_35_code
def yX6_lessens : MethodName := ⟨RX6, "lessens", "(LCourseHouse$Book;)Z"⟩
abbrev cX6_load : ByteArray := prog_1_method_36_code
def yX6_load : MethodName := ⟨RX6, "load", "(I)V"⟩
abbrev cX6_isOpen : ByteArray := prog_1_method_37_code
def yX6_isOpen : MethodName := ⟨RX6, "isOpen", "(ILCourseHouse$Work;)Z"⟩
abbrev cX6_openEnded : ByteArray := prog_1_method_38_code
def yX6_openEnded : MethodName := ⟨RX6, "openEnded", "(I)I"⟩
abbrev cX6_inGroup : ByteArray := prog_1_method_39_code
def yX6_inGroup : MethodName := ⟨RX6, "inGroup", "(II)Z"⟩
abbrev cX6_handGrouped : ByteArray := prog_1_method_40_code
def yX6_handGrouped : MethodName := ⟨RX6, "handGrouped", "(II)I"⟩
abbrev cX6_markGrouped : ByteArray := prog_1_method_41_code
def yX6_markGrouped : MethodName := ⟨RX6, "markGrouped", "(LCourseHouse$Sheet;II)I"⟩
abbrev cX6_peerOf : ByteArray := prog_1_method_42_code
def yX6_peerOf : MethodName := ⟨RX6, "peerOf", "(III)I"⟩
abbrev cX6_isPeer : ByteArray := prog_1_method_43_code
def yX6_isPeer : MethodName := ⟨RX6, "isPeer", "(III)Z"⟩
def RX7 : String := "CourseHouseModel"
def TX7 : u_T := fun k => match k with
  | 0 => ("CourseHouseModel", "refusals", "[I", true)
  | 1 => ("CourseHouseModel", "pupils", "I", false)
  | 2 => ("CourseHouseModel", "works", "I", false)
  | 3 => ("CourseHouseModel", "tick", "I", false)
  | 4 => ("CourseHouseModel", "handed", "I", false)
  | 5 => ("CourseHouseModel", "marks", "I", false)
  | 6 => ("CourseHouseModel", "appeals", "I", false)
  | 7 => ("CourseHouseModel", "refusedTexts", "I", false)
  | 8 => ("CourseHouseModel", "groups", "[I", true)
  | 9 => ("CourseHouseModel", "kind", "[I", true)
  | 10 => ("CourseHouseModel", "most", "[I", true)
  | 11 => ("CourseHouseModel", "due", "[I", true)
  | 12 => ("CourseHouseModel", "less", "[I", true)
  | 13 => ("CourseHouseModel", "need", "[I", true)
  | 14 => ("CourseHouseModel", "needs", "[I", true)
  | 15 => ("CourseHouseModel", "leave", "[I", true)
  | 16 => ("CourseHouseModel", "many", "[I", true)
  | 17 => ("CourseHouseModel", "when", "[I", true)
  | 18 => ("CourseHouseModel", "who", "[I", true)
  | 19 => ("CourseHouseModel", "mark", "[I", true)
  | 20 => ("CourseHouseModel", "peers", "[I", true)
  | 21 => ("CourseHouseModel", "excused", "[Z", true)
  | 22 => ("CourseHouseModel", "text", "[I", true)
  | 23 => ("CourseHouseModel", "length", "I", false)
  | 24 => ("CourseHouseModel", "word", "I", false)
  | 25 => ("CourseHouseModel", "wordAt", "I", false)
  | 26 => ("CourseHouseModel", "wordIs", "I", false)
  | 27 => ("CourseHouseModel", "at", "I", false)
  | 28 => ("CourseHouseModel", "until", "I", false)
  | 29 => ("CourseHouseModel", "fault", "I", false)
  | 30 => ("CourseHouseModel", "op", "[I", true)
  | 31 => ("CourseHouseModel", "number", "[I", true)
  | 32 => ("CourseHouseModel", "part", "[I", true)
  | 33 => ("CourseHouseModel", "beside", "[I", true)
  | 34 => ("CourseHouseModel", "last", "[I", true)
  | 35 => ("CourseHouseModel", "turned", "[Z", true)
  | 36 => ("CourseHouseModel", "nodes", "I", false)
  | 37 => ("CourseHouseModel", "ruleMany", "[I", true)
  | 38 => ("CourseHouseModel", "ruleName", "[I", true)
  | 39 => ("CourseHouseModel", "ruleNode", "[I", true)
  | 40 => ("CourseHouseModel", "ruleFrom", "[I", true)
  | 41 => ("CourseHouseModel", "hasLess", "[Z", true)
  | 42 => ("CourseHouseModel", "now", "I", false)
  | 43 => ("CourseHouseModel", "other", "I", false)
  | 44 => ("CourseHouseModel", "hangs", "[I", true)
  | 45 => ("CourseHouseModel", "oldSort", "[I", true)
  | 46 => ("CourseHouseModel", "oldUp", "[J", true)
  | 47 => ("CourseHouseModel", "oldDown", "[J", true)
  | 48 => ("CourseHouseModel", "sort", "I", false)
  | 49 => ("CourseHouseModel", "up", "J", false)
  | 50 => ("CourseHouseModel", "down", "J", false)
  | 51 => ("CourseHouseModel", "pupil", "I", false)
  | 52 => ("CourseHouseModel", "taken", "[I", true)
  | 53 => ("CourseHouseModel", "ruleSort", "[I", true)
  | 54 => ("CourseHouseModel", "ruleUp", "[J", true)
  | 55 => ("CourseHouseModel", "ruleDown", "[J", true)
  | 56 => ("CourseHouseModel", "nodeSort", "[I", true)
  | 57 => ("CourseHouseModel", "nodeUp", "[J", true)
  | 58 => ("CourseHouseModel", "nodeDown", "[J", true)
  | 59 => ("CourseHouseModel", "sorted", "[I", true)
  | 60 => ("CourseHouseModel", "isAny", "Z", false)
  | 61 => ("CourseHouseModel", "leastUp", "J", false)
  | 62 => ("CourseHouseModel", "leastDown", "J", false)
  | 63 => ("CourseHouseModel", "mostUp", "J", false)
  | 64 => ("CourseHouseModel", "mostDown", "J", false)
  | 65 => ("CourseHouseModel", "open", "[I", true)
  | _ => ("CourseHouseModel", "opens", "I", false)
def tyX7 : Nat → FieldType := fun k => match k with
  | 0 => .array .int
  | 1 => .int
  | 2 => .int
  | 3 => .int
  | 4 => .int
  | 5 => .int
  | 6 => .int
  | 7 => .int
  | 8 => .array .int
  | 9 => .array .int
  | 10 => .array .int
  | 11 => .array .int
  | 12 => .array .int
  | 13 => .array .int
  | 14 => .array .int
  | 15 => .array .int
  | 16 => .array .int
  | 17 => .array .int
  | 18 => .array .int
  | 19 => .array .int
  | 20 => .array .int
  | 21 => .array .boolean
  | 22 => .array .int
  | 23 => .int
  | 24 => .int
  | 25 => .int
  | 26 => .int
  | 27 => .int
  | 28 => .int
  | 29 => .int
  | 30 => .array .int
  | 31 => .array .int
  | 32 => .array .int
  | 33 => .array .int
  | 34 => .array .int
  | 35 => .array .boolean
  | 36 => .int
  | 37 => .array .int
  | 38 => .array .int
  | 39 => .array .int
  | 40 => .array .int
  | 41 => .array .boolean
  | 42 => .int
  | 43 => .int
  | 44 => .array .int
  | 45 => .array .int
  | 46 => .array .long
  | 47 => .array .long
  | 48 => .int
  | 49 => .long
  | 50 => .long
  | 51 => .int
  | 52 => .array .int
  | 53 => .array .int
  | 54 => .array .long
  | 55 => .array .long
  | 56 => .array .int
  | 57 => .array .long
  | 58 => .array .long
  | 59 => .array .int
  | 60 => .boolean
  | 61 => .long
  | 62 => .long
  | 63 => .long
  | 64 => .long
  | 65 => .array .int
  | _ => .int
abbrev wsX70 : List Cond := u_ws RX7 TX7 67
theorem nmX7 : ∀ a, a < 67 → ∀ b, b < 67 → a ≠ b → (TX7 a).2.1 ≠ (TX7 b).2.1 := by decide +kernel
theorem tyX7_ok : ∀ k, k < 67 → parseFieldDescriptor (TX7 k).2.2.1 = some (tyX7 k) := by decide +kernel
abbrev cX7_init : ByteArray := prog_9_method_1_code
def yX7_init : MethodName := ⟨RX7, "<init>", "()V"⟩
abbrev cX7_refuse : ByteArray := prog_9_method_2_code
def yX7_refuse : MethodName := ⟨RX7, "refuse", "(I)I"⟩
abbrev cX7_refuseFar : ByteArray := prog_9_method_3_code
def yX7_refuseFar : MethodName := ⟨RX7, "refuseFar", "(I)I"⟩
abbrev cX7_isIn : ByteArray := prog_9_method_4_code
def yX7_isIn : MethodName := ⟨RX7, "isIn", "(II)Z"⟩
abbrev cX7_isPupil : ByteArray := prog_9_method_5_code
def yX7_isPupil : MethodName := ⟨RX7, "isPupil", "(I)Z"⟩
abbrev cX7_isWork : ByteArray := prog_9_method_6_code
def yX7_isWork : MethodName := ⟨RX7, "isWork", "(I)Z"⟩
abbrev cX7_isRule : ByteArray := prog_9_method_7_code
def yX7_isRule : MethodName := ⟨RX7, "isRule", "(I)Z"⟩
abbrev cX7_spot : ByteArray := prog_9_method_8_code
def yX7_spot : MethodName := ⟨RX7, "spot", "(II)I"⟩
abbrev cX7_pupil : ByteArray := prog_9_method_9_code
def yX7_pupil : MethodName := ⟨RX7, "pupil", "()I"⟩
abbrev cX7_group : ByteArray := prog_9_method_10_code
def yX7_group : MethodName := ⟨RX7, "group", "(II)I"⟩
abbrev cX7_work : ByteArray := prog_9_method_11_code
def yX7_work : MethodName := ⟨RX7, "work", "(IIII)I"⟩
abbrev cX7_leave : ByteArray := prog_9_method_12_code
def yX7_leave : MethodName := ⟨RX7, "leave", "(III)I"⟩
abbrev cX7_excuse : ByteArray := prog_9_method_13_code
def yX7_excuse : MethodName := ⟨RX7, "excuse", "(IIZ)I"⟩
abbrev cX7_tick : ByteArray := prog_9_method_14_code
def yX7_tick : MethodName := ⟨RX7, "tick", "(I)I"⟩
abbrev cX7_text : ByteArray := prog_9_method_15_code
def yX7_text : MethodName := ⟨RX7, "text", "(IIIII)I"⟩
abbrev cX7_isDigit : ByteArray := prog_9_method_16_code
def yX7_isDigit : MethodName := ⟨RX7, "isDigit", "(I)Z"⟩
abbrev cX7_isLetter : ByteArray := prog_9_method_17_code
def yX7_isLetter : MethodName := ⟨RX7, "isLetter", "(I)Z"⟩
abbrev cX7_reads : ByteArray := prog_9_method_18_code
def yX7_reads : MethodName := ⟨RX7, "reads", "()V"⟩
abbrev cX7_isSign : ByteArray := prog_9_method_19_code
def yX7_isSign : MethodName := ⟨RX7, "isSign", "(I)Z"⟩
abbrev cX7_isFine : ByteArray := prog_9_method_20_code
def yX7_isFine : MethodName := ⟨RX7, "isFine", "()Z"⟩
abbrev cX7_faults : ByteArray := prog_9_method_21_code
def yX7_faults : MethodName := ⟨RX7, "faults", "()I"⟩
abbrev cX7_must : ByteArray := prog_9_method_22_code
def yX7_must : MethodName := ⟨RX7, "must", "(I)V"⟩
abbrev cX7_node : ByteArray := prog_9_method_23_code
def yX7_node : MethodName := ⟨RX7, "node", "(II)I"⟩
abbrev cX7_adds : ByteArray := prog_9_method_24_code
def yX7_adds : MethodName := ⟨RX7, "adds", "(II)V"⟩
abbrev cX7_functionOf : ByteArray := prog_9_method_25_code
def yX7_functionOf : MethodName := ⟨RX7, "functionOf", "(I)I"⟩
abbrev cX7_workOf : ByteArray := prog_9_method_26_code
def yX7_workOf : MethodName := ⟨RX7, "workOf", "(I)I"⟩
abbrev cX7_sum : ByteArray := prog_9_method_27_code
def yX7_sum : MethodName := ⟨RX7, "sum", "(I)I"⟩
abbrev cX7_product : ByteArray := prog_9_method_28_code
def yX7_product : MethodName := ⟨RX7, "product", "(I)I"⟩
abbrev cX7_one : ByteArray := prog_9_method_29_code
def yX7_one : MethodName := ⟨RX7, "one", "(I)I"⟩
abbrev cX7_list : ByteArray := prog_9_method_30_code
def yX7_list : MethodName := ⟨RX7, "list", "(III)I"⟩
abbrev cX7_parses : ByteArray := prog_9_method_31_code
def yX7_parses : MethodName := ⟨RX7, "parses", "(I)Z"⟩
abbrev cX7_ruleOf : ByteArray := prog_9_method_32_code
def yX7_ruleOf : MethodName := ⟨RX7, "ruleOf", "(II)I"⟩
abbrev cX7_holes : ByteArray := prog_9_method_33_code
def yX7_holes : MethodName := ⟨RX7, "holes", "()I"⟩
abbrev cX7_twice : ByteArray := prog_9_method_34_code
def yX7_twice : MethodName := ⟨RX7, "twice", "()I"⟩
abbrev cX7_findHangs : ByteArray := prog_9_method_35_code
def yX7_findHangs : MethodName := ⟨RX7, "findHangs", "(I)V"⟩
abbrev cX7_isRing : ByteArray := prog_9_method_36_code
def yX7_isRing : MethodName := ⟨RX7, "isRing", "()Z"⟩
abbrev cX7_keepsOld : ByteArray := prog_9_method_37_code
def yX7_keepsOld : MethodName := ⟨RX7, "keepsOld", "()V"⟩
abbrev cX7_isLess : ByteArray := prog_9_method_38_code
def yX7_isLess : MethodName := ⟨RX7, "isLess", "(I)Z"⟩
abbrev cX7_refusesText : ByteArray := prog_9_method_39_code
def yX7_refusesText : MethodName := ⟨RX7, "refusesText", "(I)I"⟩
abbrev cX7_rules : ByteArray := prog_9_method_40_code
def yX7_rules : MethodName := ⟨RX7, "rules", "(IZ)I"⟩
abbrev cX7_name : ByteArray := prog_9_method_41_code
def yX7_name : MethodName := ⟨RX7, "name", "(I)I"⟩
abbrev cX7_hangs : ByteArray := prog_9_method_42_code
def yX7_hangs : MethodName := ⟨RX7, "hangs", "(II)I"⟩
abbrev cX7_need : ByteArray := prog_9_method_43_code
def yX7_need : MethodName := ⟨RX7, "need", "(III)I"⟩
abbrev cX7_tells : ByteArray := prog_9_method_44_code
def yX7_tells : MethodName := ⟨RX7, "tells", "(JJ)V"⟩
abbrev cX7_days : ByteArray := prog_9_method_45_code
def yX7_days : MethodName := ⟨RX7, "days", "(III)I"⟩
abbrev cX7_part100 : ByteArray := prog_9_method_46_code
def yX7_part100 : MethodName := ⟨RX7, "part100", "(III)J"⟩
abbrev cX7_peerMarks : ByteArray := prog_9_method_47_code
def yX7_peerMarks : MethodName := ⟨RX7, "peerMarks", "(II)I"⟩
abbrev cX7_isMarked : ByteArray := prog_9_method_48_code
def yX7_isMarked : MethodName := ⟨RX7, "isMarked", "(II)Z"⟩
abbrev cX7_markedIs : ByteArray := prog_9_method_49_code
def yX7_markedIs : MethodName := ⟨RX7, "markedIs", "(II)V"⟩
abbrev cX7_isOpenEnded : ByteArray := prog_9_method_50_code
def yX7_isOpenEnded : MethodName := ⟨RX7, "isOpenEnded", "(II)Z"⟩
abbrev cX7_begins : ByteArray := prog_9_method_51_code
def yX7_begins : MethodName := ⟨RX7, "begins", "(I)V"⟩
abbrev cX7_forgets : ByteArray := prog_9_method_52_code
def yX7_forgets : MethodName := ⟨RX7, "forgets", "()V"⟩
abbrev cX7_workIs : ByteArray := prog_9_method_53_code
def yX7_workIs : MethodName := ⟨RX7, "workIs", "(I)V"⟩
abbrev cX7_values : ByteArray := prog_9_method_54_code
def yX7_values : MethodName := ⟨RX7, "values", "(I)V"⟩
abbrev cX7_valueOf : ByteArray := prog_9_method_55_code
def yX7_valueOf : MethodName := ⟨RX7, "valueOf", "(I)V"⟩
abbrev cX7_partsOf : ByteArray := prog_9_method_56_code
def yX7_partsOf : MethodName := ⟨RX7, "partsOf", "(I)V"⟩
abbrev cX7_plus : ByteArray := prog_9_method_57_code
def yX7_plus : MethodName := ⟨RX7, "plus", "(JJ)V"⟩
abbrev cX7_sums : ByteArray := prog_9_method_58_code
def yX7_sums : MethodName := ⟨RX7, "sums", "(I)V"⟩
abbrev cX7_multiplies : ByteArray := prog_9_method_59_code
def yX7_multiplies : MethodName := ⟨RX7, "multiplies", "(I)V"⟩
abbrev cX7_caps : ByteArray := prog_9_method_60_code
def yX7_caps : MethodName := ⟨RX7, "caps", "(I)V"⟩
abbrev cX7_picks : ByteArray := prog_9_method_61_code
def yX7_picks : MethodName := ⟨RX7, "picks", "(II)V"⟩
abbrev cX7_isOpen : ByteArray := prog_9_method_62_code
def yX7_isOpen : MethodName := ⟨RX7, "isOpen", "(II)Z"⟩
abbrev cX7_opens : ByteArray := prog_9_method_63_code
def yX7_opens : MethodName := ⟨RX7, "opens", "(II)I"⟩
abbrev cX7_hands : ByteArray := prog_9_method_64_code
def yX7_hands : MethodName := ⟨RX7, "hands", "(IIII)V"⟩
abbrev cX7_hand : ByteArray := prog_9_method_65_code
def yX7_hand : MethodName := ⟨RX7, "hand", "(II)I"⟩
abbrev cX7_handsAll : ByteArray := prog_9_method_66_code
def yX7_handsAll : MethodName := ⟨RX7, "handsAll", "(II)I"⟩
abbrev cX7_toMark : ByteArray := prog_9_method_67_code
def yX7_toMark : MethodName := ⟨RX7, "toMark", "(II)I"⟩
abbrev cX7_mark : ByteArray := prog_9_method_68_code
def yX7_mark : MethodName := ⟨RX7, "mark", "(III)I"⟩
abbrev cX7_peerOf : ByteArray := prog_9_method_69_code
def yX7_peerOf : MethodName := ⟨RX7, "peerOf", "(III)I"⟩
abbrev cX7_isShown : ByteArray := prog_9_method_70_code
def yX7_isShown : MethodName := ⟨RX7, "isShown", "(II)Z"⟩
abbrev cX7_peer : ByteArray := prog_9_method_71_code
def yX7_peer : MethodName := ⟨RX7, "peer", "(III)I"⟩
abbrev cX7_show : ByteArray := prog_9_method_72_code
def yX7_show : MethodName := ⟨RX7, "show", "(IIII)I"⟩
abbrev cX7_appeal : ByteArray := prog_9_method_73_code
def yX7_appeal : MethodName := ⟨RX7, "appeal", "(III)I"⟩
abbrev cX7_markOf : ByteArray := prog_9_method_74_code
def yX7_markOf : MethodName := ⟨RX7, "markOf", "(III)I"⟩
abbrev cX7_value : ByteArray := prog_9_method_75_code
def yX7_value : MethodName := ⟨RX7, "value", "(III)I"⟩
abbrev cX7_looks : ByteArray := prog_9_method_76_code
def yX7_looks : MethodName := ⟨RX7, "looks", "(I)V"⟩
abbrev cX7_goes : ByteArray := prog_9_method_77_code
def yX7_goes : MethodName := ⟨RX7, "goes", "(II)V"⟩
abbrev cX7_range : ByteArray := prog_9_method_78_code
def yX7_range : MethodName := ⟨RX7, "range", "(III)I"⟩
abbrev cX7_least : ByteArray := prog_9_method_79_code
def yX7_least : MethodName := ⟨RX7, "least", "(IIII)I"⟩
abbrev cX7_count : ByteArray := prog_9_method_80_code
def yX7_count : MethodName := ⟨RX7, "count", "(I)I"⟩
def RJ6 : String := "java/lang/Integer"
def TJ6 : u_T := fun k => match k with
  | _ => ("", "", "", false)
def tyJ6 : Nat → FieldType := fun k => match k with
  | _ => .int
theorem nmJ6 : ∀ a, a < 0 → ∀ b, b < 0 → a ≠ b → (TJ6 a).2.1 ≠ (TJ6 b).2.1 := by decide +kernel
theorem tyJ6_ok : ∀ k, k < 0 → parseFieldDescriptor (TJ6 k).2.2.1 = some (tyJ6 k) := by decide +kernel
abbrev cJ6_bitCount_0f7a4 : ByteArray := prog_10_method_49_code
def yJ6_bitCount_0f7a4 : MethodName := ⟨RJ6, "bitCount", "(I)I"⟩
def RJ9 : String := "java/lang/Math"
def TJ9 : u_T := fun k => match k with
  | _ => ("", "", "", false)
def tyJ9 : Nat → FieldType := fun k => match k with
  | _ => .int
theorem nmJ9 : ∀ a, a < 0 → ∀ b, b < 0 → a ≠ b → (TJ9 a).2.1 ≠ (TJ9 b).2.1 := by decide +kernel
theorem tyJ9_ok : ∀ k, k < 0 → parseFieldDescriptor (TJ9 k).2.2.1 = some (tyJ9 k) := by decide +kernel
abbrev cJ9_abs_067f4 : ByteArray := prog_11_method_61_code
def yJ9_abs_067f4 : MethodName := ⟨RJ9, "abs", "(J)J"⟩
abbrev cJ9_max_7cf53 : ByteArray := prog_11_method_65_code
def yJ9_max_7cf53 : MethodName := ⟨RJ9, "max", "(II)I"⟩
abbrev cJ9_max_f86c9 : ByteArray := prog_11_method_66_code
def yJ9_max_f86c9 : MethodName := ⟨RJ9, "max", "(JJ)J"⟩
abbrev cJ9_min_7cf53 : ByteArray := prog_11_method_69_code
def yJ9_min_7cf53 : MethodName := ⟨RJ9, "min", "(II)I"⟩
def RJ7 : String := "java/util/Arrays"
def TJ7 : u_T := fun k => match k with
  | _ => ("", "", "", false)
def tyJ7 : Nat → FieldType := fun k => match k with
  | _ => .int
theorem nmJ7 : ∀ a, a < 0 → ∀ b, b < 0 → a ≠ b → (TJ7 a).2.1 ≠ (TJ7 b).2.1 := by decide +kernel
theorem tyJ7_ok : ∀ k, k < 0 → parseFieldDescriptor (TJ7 k).2.2.1 = some (tyJ7 k) := by decide +kernel
abbrev cJ7_fill_53178 : ByteArray := prog_12_method_103_code
def yJ7_fill_53178 : MethodName := ⟨RJ7, "fill", "([II)V"⟩
def RL : String := "CourseHouseLaw"
abbrev cL_law : ByteArray := code
def yL_law : MethodName := ⟨RL, "law", "([I)Z"⟩
abbrev vwCl : List vw_C := [(RX0, TX0, 12), (RX1, TX1, 10), (RX2, TX2, 9), (RX3, TX3, 7), (RX5, TX5, 6), (RX6, TX6, 14), (RX7, TX7, 67)]
